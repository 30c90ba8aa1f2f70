section
-- ===== PART A: goes FIRST, ahead of the names: the tables' words, and 'selects' of the private methods out of them =====
/-- a private method of a class that the tables say can be made, by its rows of tables_1 -/
def lw_okq (q : MethodName × Nat) : Prop := (q.1.cls ≠ "java/lang/invoke/MethodHandle" ∧ q.1.cls ≠ "java/lang/invoke/VarHandle") ∧ Cond.instantiable q.1.cls q.2 ∈ tables_1 ∧ Cond.privateMethod q.1 ∈ tables_1 ∧ Cond.instanceMethod q.1 ∈ tables_1
theorem lw_p0 : lw_okq (⟨"BundleLinks$Traffic", "release", "(I)I"⟩, 7) := ⟨⟨by decide +kernel, by decide +kernel⟩, List.mem_of_getElem? (i := 227) (by decide +kernel), List.mem_of_getElem? (i := 336) (by decide +kernel), List.mem_of_getElem? (i := 337) (by decide +kernel)⟩
theorem lw_p1 : lw_okq (⟨"BundleLinks$Traffic", "enqueue", "(II)V"⟩, 7) := ⟨⟨by decide +kernel, by decide +kernel⟩, List.mem_of_getElem? (i := 227) (by decide +kernel), List.mem_of_getElem? (i := 340) (by decide +kernel), List.mem_of_getElem? (i := 341) (by decide +kernel)⟩
theorem lw_p2 : lw_okq (⟨"BundleLinks$Traffic", "leave", "(I)V"⟩, 7) := ⟨⟨by decide +kernel, by decide +kernel⟩, List.mem_of_getElem? (i := 227) (by decide +kernel), List.mem_of_getElem? (i := 427) (by decide +kernel), List.mem_of_getElem? (i := 428) (by decide +kernel)⟩
theorem lw_p3 : lw_okq (⟨"BundleLinks$Traffic", "arrive", "(I)V"⟩, 7) := ⟨⟨by decide +kernel, by decide +kernel⟩, List.mem_of_getElem? (i := 227) (by decide +kernel), List.mem_of_getElem? (i := 434) (by decide +kernel), List.mem_of_getElem? (i := 435) (by decide +kernel)⟩
theorem lw_p4 : lw_okq (⟨"BundleLinks$Traffic", "letOut", "(I)V"⟩, 7) := ⟨⟨by decide +kernel, by decide +kernel⟩, List.mem_of_getElem? (i := 227) (by decide +kernel), List.mem_of_getElem? (i := 438) (by decide +kernel), List.mem_of_getElem? (i := 439) (by decide +kernel)⟩
theorem lw_p5 : lw_okq (⟨"BundleLinks$Traffic", "letOutInOrder", "()V"⟩, 7) := ⟨⟨by decide +kernel, by decide +kernel⟩, List.mem_of_getElem? (i := 227) (by decide +kernel), List.mem_of_getElem? (i := 446) (by decide +kernel), List.mem_of_getElem? (i := 447) (by decide +kernel)⟩
theorem lw_p6 : lw_okq (⟨"BundleLinks$Traffic", "settle", "(I)V"⟩, 7) := ⟨⟨by decide +kernel, by decide +kernel⟩, List.mem_of_getElem? (i := 227) (by decide +kernel), List.mem_of_getElem? (i := 451) (by decide +kernel), List.mem_of_getElem? (i := 452) (by decide +kernel)⟩
theorem lw_p7 : lw_okq (⟨"BundleLinks$Traffic", "mayReach", "(II)Z"⟩, 7) := ⟨⟨by decide +kernel, by decide +kernel⟩, List.mem_of_getElem? (i := 227) (by decide +kernel), List.mem_of_getElem? (i := 455) (by decide +kernel), List.mem_of_getElem? (i := 456) (by decide +kernel)⟩
theorem lw_p8 : lw_okq (⟨"BundleLinks$Traffic", "reach", "(II)V"⟩, 7) := ⟨⟨by decide +kernel, by decide +kernel⟩, List.mem_of_getElem? (i := 227) (by decide +kernel), List.mem_of_getElem? (i := 459) (by decide +kernel), List.mem_of_getElem? (i := 460) (by decide +kernel)⟩
theorem lw_p9 : lw_okq (⟨"BundleLinks$Traffic", "loseLetters", "(I)I"⟩, 7) := ⟨⟨by decide +kernel, by decide +kernel⟩, List.mem_of_getElem? (i := 227) (by decide +kernel), List.mem_of_getElem? (i := 488) (by decide +kernel), List.mem_of_getElem? (i := 489) (by decide +kernel)⟩
theorem lw_p10 : lw_okq (⟨"BundleLinks$Traffic", "upLinkWithFewestBuckets", "()I"⟩, 7) := ⟨⟨by decide +kernel, by decide +kernel⟩, List.mem_of_getElem? (i := 227) (by decide +kernel), List.mem_of_getElem? (i := 493) (by decide +kernel), List.mem_of_getElem? (i := 494) (by decide +kernel)⟩
theorem lw_p11 : lw_okq (⟨"BundleLinks$Planner", "measure", "(I)V"⟩, 12) := ⟨⟨by decide +kernel, by decide +kernel⟩, List.mem_of_getElem? (i := 257) (by decide +kernel), List.mem_of_getElem? (i := 556) (by decide +kernel), List.mem_of_getElem? (i := 557) (by decide +kernel)⟩
theorem lw_p12 : lw_okq (⟨"BundleLinks$Planner", "isWithinShare", "(II)Z"⟩, 12) := ⟨⟨by decide +kernel, by decide +kernel⟩, List.mem_of_getElem? (i := 257) (by decide +kernel), List.mem_of_getElem? (i := 561) (by decide +kernel), List.mem_of_getElem? (i := 562) (by decide +kernel)⟩
theorem lw_p13 : lw_okq (⟨"BundleLinks$Planner", "place", "(II)V"⟩, 12) := ⟨⟨by decide +kernel, by decide +kernel⟩, List.mem_of_getElem? (i := 257) (by decide +kernel), List.mem_of_getElem? (i := 574) (by decide +kernel), List.mem_of_getElem? (i := 575) (by decide +kernel)⟩
theorem lw_p14 : lw_okq (⟨"BundleLinks$Planner", "keep", "(I)V"⟩, 12) := ⟨⟨by decide +kernel, by decide +kernel⟩, List.mem_of_getElem? (i := 257) (by decide +kernel), List.mem_of_getElem? (i := 578) (by decide +kernel), List.mem_of_getElem? (i := 579) (by decide +kernel)⟩
theorem lw_p15 : lw_okq (⟨"BundleLinks$Planner", "placeOn", "(III)V"⟩, 12) := ⟨⟨by decide +kernel, by decide +kernel⟩, List.mem_of_getElem? (i := 257) (by decide +kernel), List.mem_of_getElem? (i := 585) (by decide +kernel), List.mem_of_getElem? (i := 586) (by decide +kernel)⟩
def lw_privs_1 : List (MethodName × Nat) := [(⟨"BundleLinks$Traffic", "release", "(I)I"⟩, 7), (⟨"BundleLinks$Traffic", "enqueue", "(II)V"⟩, 7), (⟨"BundleLinks$Traffic", "leave", "(I)V"⟩, 7), (⟨"BundleLinks$Traffic", "arrive", "(I)V"⟩, 7), (⟨"BundleLinks$Traffic", "letOut", "(I)V"⟩, 7), (⟨"BundleLinks$Traffic", "letOutInOrder", "()V"⟩, 7), (⟨"BundleLinks$Traffic", "settle", "(I)V"⟩, 7), (⟨"BundleLinks$Traffic", "mayReach", "(II)Z"⟩, 7), (⟨"BundleLinks$Traffic", "reach", "(II)V"⟩, 7), (⟨"BundleLinks$Traffic", "loseLetters", "(I)I"⟩, 7), (⟨"BundleLinks$Traffic", "upLinkWithFewestBuckets", "()I"⟩, 7), (⟨"BundleLinks$Planner", "measure", "(I)V"⟩, 12), (⟨"BundleLinks$Planner", "isWithinShare", "(II)Z"⟩, 12), (⟨"BundleLinks$Planner", "place", "(II)V"⟩, 12), (⟨"BundleLinks$Planner", "keep", "(I)V"⟩, 12), (⟨"BundleLinks$Planner", "placeOn", "(III)V"⟩, 12)]
theorem lw_r1 : ∀ q ∈ lw_privs_1, lw_okq q := List.forall_mem_cons.mpr ⟨lw_p0, List.forall_mem_cons.mpr ⟨lw_p1, List.forall_mem_cons.mpr ⟨lw_p2, List.forall_mem_cons.mpr ⟨lw_p3, List.forall_mem_cons.mpr ⟨lw_p4, List.forall_mem_cons.mpr ⟨lw_p5, List.forall_mem_cons.mpr ⟨lw_p6, List.forall_mem_cons.mpr ⟨lw_p7, List.forall_mem_cons.mpr ⟨lw_p8, List.forall_mem_cons.mpr ⟨lw_p9, List.forall_mem_cons.mpr ⟨lw_p10, List.forall_mem_cons.mpr ⟨lw_p11, List.forall_mem_cons.mpr ⟨lw_p12, List.forall_mem_cons.mpr ⟨lw_p13, List.forall_mem_cons.mpr ⟨lw_p14, List.forall_mem_cons.mpr ⟨lw_p15, fun _ h => absurd h List.not_mem_nil⟩⟩⟩⟩⟩⟩⟩⟩⟩⟩⟩⟩⟩⟩⟩⟩
theorem lw_p16 : lw_okq (⟨"BundleLinksModel", "takes", "(I)I"⟩, 36) := ⟨⟨by decide +kernel, by decide +kernel⟩, List.mem_of_getElem? (i := 593) (by decide +kernel), List.mem_of_getElem? (i := 715) (by decide +kernel), List.mem_of_getElem? (i := 716) (by decide +kernel)⟩
theorem lw_p17 : lw_okq (⟨"BundleLinksModel", "lets", "(I)I"⟩, 36) := ⟨⟨by decide +kernel, by decide +kernel⟩, List.mem_of_getElem? (i := 593) (by decide +kernel), List.mem_of_getElem? (i := 719) (by decide +kernel), List.mem_of_getElem? (i := 720) (by decide +kernel)⟩
theorem lw_p18 : lw_okq (⟨"BundleLinksModel", "queue", "(II)V"⟩, 36) := ⟨⟨by decide +kernel, by decide +kernel⟩, List.mem_of_getElem? (i := 593) (by decide +kernel), List.mem_of_getElem? (i := 723) (by decide +kernel), List.mem_of_getElem? (i := 724) (by decide +kernel)⟩
theorem lw_p19 : lw_okq (⟨"BundleLinksModel", "isFlow", "(I)Z"⟩, 36) := ⟨⟨by decide +kernel, by decide +kernel⟩, List.mem_of_getElem? (i := 593) (by decide +kernel), List.mem_of_getElem? (i := 735) (by decide +kernel), List.mem_of_getElem? (i := 736) (by decide +kernel)⟩
theorem lw_p20 : lw_okq (⟨"BundleLinksModel", "hasOpen", "(I)Z"⟩, 36) := ⟨⟨by decide +kernel, by decide +kernel⟩, List.mem_of_getElem? (i := 593) (by decide +kernel), List.mem_of_getElem? (i := 743) (by decide +kernel), List.mem_of_getElem? (i := 744) (by decide +kernel)⟩
theorem lw_p21 : lw_okq (⟨"BundleLinksModel", "bucketNow", "(I)I"⟩, 36) := ⟨⟨by decide +kernel, by decide +kernel⟩, List.mem_of_getElem? (i := 593) (by decide +kernel), List.mem_of_getElem? (i := 747) (by decide +kernel), List.mem_of_getElem? (i := 748) (by decide +kernel)⟩
theorem lw_p22 : lw_okq (⟨"BundleLinksModel", "held", "(I)I"⟩, 36) := ⟨⟨by decide +kernel, by decide +kernel⟩, List.mem_of_getElem? (i := 593) (by decide +kernel), List.mem_of_getElem? (i := 763) (by decide +kernel), List.mem_of_getElem? (i := 764) (by decide +kernel)⟩
theorem lw_p23 : lw_okq (⟨"BundleLinksModel", "ofFlowIn", "(II)I"⟩, 36) := ⟨⟨by decide +kernel, by decide +kernel⟩, List.mem_of_getElem? (i := 593) (by decide +kernel), List.mem_of_getElem? (i := 767) (by decide +kernel), List.mem_of_getElem? (i := 768) (by decide +kernel)⟩
theorem lw_p24 : lw_okq (⟨"BundleLinksModel", "tick1", "()V"⟩, 36) := ⟨⟨by decide +kernel, by decide +kernel⟩, List.mem_of_getElem? (i := 593) (by decide +kernel), List.mem_of_getElem? (i := 775) (by decide +kernel), List.mem_of_getElem? (i := 776) (by decide +kernel)⟩
theorem lw_p25 : lw_okq (⟨"BundleLinksModel", "firstQueued", "(I)I"⟩, 36) := ⟨⟨by decide +kernel, by decide +kernel⟩, List.mem_of_getElem? (i := 593) (by decide +kernel), List.mem_of_getElem? (i := 779) (by decide +kernel), List.mem_of_getElem? (i := 780) (by decide +kernel)⟩
theorem lw_p26 : lw_okq (⟨"BundleLinksModel", "firstArriving", "(I)I"⟩, 36) := ⟨⟨by decide +kernel, by decide +kernel⟩, List.mem_of_getElem? (i := 593) (by decide +kernel), List.mem_of_getElem? (i := 783) (by decide +kernel), List.mem_of_getElem? (i := 784) (by decide +kernel)⟩
theorem lw_p27 : lw_okq (⟨"BundleLinksModel", "comesOut", "(I)V"⟩, 36) := ⟨⟨by decide +kernel, by decide +kernel⟩, List.mem_of_getElem? (i := 593) (by decide +kernel), List.mem_of_getElem? (i := 787) (by decide +kernel), List.mem_of_getElem? (i := 788) (by decide +kernel)⟩
theorem lw_p28 : lw_okq (⟨"BundleLinksModel", "isNext", "(I)Z"⟩, 36) := ⟨⟨by decide +kernel, by decide +kernel⟩, List.mem_of_getElem? (i := 593) (by decide +kernel), List.mem_of_getElem? (i := 791) (by decide +kernel), List.mem_of_getElem? (i := 792) (by decide +kernel)⟩
theorem lw_p29 : lw_okq (⟨"BundleLinksModel", "settle", "(I)I"⟩, 36) := ⟨⟨by decide +kernel, by decide +kernel⟩, List.mem_of_getElem? (i := 593) (by decide +kernel), List.mem_of_getElem? (i := 795) (by decide +kernel), List.mem_of_getElem? (i := 796) (by decide +kernel)⟩
theorem lw_p30 : lw_okq (⟨"BundleLinksModel", "canCome", "(II)Z"⟩, 36) := ⟨⟨by decide +kernel, by decide +kernel⟩, List.mem_of_getElem? (i := 593) (by decide +kernel), List.mem_of_getElem? (i := 799) (by decide +kernel), List.mem_of_getElem? (i := 800) (by decide +kernel)⟩
theorem lw_p31 : lw_okq (⟨"BundleLinksModel", "isLink", "(I)Z"⟩, 36) := ⟨⟨by decide +kernel, by decide +kernel⟩, List.mem_of_getElem? (i := 593) (by decide +kernel), List.mem_of_getElem? (i := 810) (by decide +kernel), List.mem_of_getElem? (i := 811) (by decide +kernel)⟩
def lw_privs_2 : List (MethodName × Nat) := [(⟨"BundleLinksModel", "takes", "(I)I"⟩, 36), (⟨"BundleLinksModel", "lets", "(I)I"⟩, 36), (⟨"BundleLinksModel", "queue", "(II)V"⟩, 36), (⟨"BundleLinksModel", "isFlow", "(I)Z"⟩, 36), (⟨"BundleLinksModel", "hasOpen", "(I)Z"⟩, 36), (⟨"BundleLinksModel", "bucketNow", "(I)I"⟩, 36), (⟨"BundleLinksModel", "held", "(I)I"⟩, 36), (⟨"BundleLinksModel", "ofFlowIn", "(II)I"⟩, 36), (⟨"BundleLinksModel", "tick1", "()V"⟩, 36), (⟨"BundleLinksModel", "firstQueued", "(I)I"⟩, 36), (⟨"BundleLinksModel", "firstArriving", "(I)I"⟩, 36), (⟨"BundleLinksModel", "comesOut", "(I)V"⟩, 36), (⟨"BundleLinksModel", "isNext", "(I)Z"⟩, 36), (⟨"BundleLinksModel", "settle", "(I)I"⟩, 36), (⟨"BundleLinksModel", "canCome", "(II)Z"⟩, 36), (⟨"BundleLinksModel", "isLink", "(I)Z"⟩, 36)]
theorem lw_r2 : ∀ q ∈ lw_privs_2, lw_okq q := List.forall_mem_cons.mpr ⟨lw_p16, List.forall_mem_cons.mpr ⟨lw_p17, List.forall_mem_cons.mpr ⟨lw_p18, List.forall_mem_cons.mpr ⟨lw_p19, List.forall_mem_cons.mpr ⟨lw_p20, List.forall_mem_cons.mpr ⟨lw_p21, List.forall_mem_cons.mpr ⟨lw_p22, List.forall_mem_cons.mpr ⟨lw_p23, List.forall_mem_cons.mpr ⟨lw_p24, List.forall_mem_cons.mpr ⟨lw_p25, List.forall_mem_cons.mpr ⟨lw_p26, List.forall_mem_cons.mpr ⟨lw_p27, List.forall_mem_cons.mpr ⟨lw_p28, List.forall_mem_cons.mpr ⟨lw_p29, List.forall_mem_cons.mpr ⟨lw_p30, List.forall_mem_cons.mpr ⟨lw_p31, fun _ h => absurd h List.not_mem_nil⟩⟩⟩⟩⟩⟩⟩⟩⟩⟩⟩⟩⟩⟩⟩⟩
theorem lw_p32 : lw_okq (⟨"BundleLinksModel", "bucketsOn", "(I)I"⟩, 36) := ⟨⟨by decide +kernel, by decide +kernel⟩, List.mem_of_getElem? (i := 593) (by decide +kernel), List.mem_of_getElem? (i := 822) (by decide +kernel), List.mem_of_getElem? (i := 823) (by decide +kernel)⟩
theorem lw_p33 : lw_okq (⟨"BundleLinksModel", "inState", "(II)I"⟩, 36) := ⟨⟨by decide +kernel, by decide +kernel⟩, List.mem_of_getElem? (i := 593) (by decide +kernel), List.mem_of_getElem? (i := 838) (by decide +kernel), List.mem_of_getElem? (i := 839) (by decide +kernel)⟩
theorem lw_p34 : lw_okq (⟨"BundleLinksModel", "load", "(I)I"⟩, 36) := ⟨⟨by decide +kernel, by decide +kernel⟩, List.mem_of_getElem? (i := 593) (by decide +kernel), List.mem_of_getElem? (i := 842) (by decide +kernel), List.mem_of_getElem? (i := 843) (by decide +kernel)⟩
theorem lw_p35 : lw_okq (⟨"BundleLinksModel", "rates", "(I)I"⟩, 36) := ⟨⟨by decide +kernel, by decide +kernel⟩, List.mem_of_getElem? (i := 593) (by decide +kernel), List.mem_of_getElem? (i := 846) (by decide +kernel), List.mem_of_getElem? (i := 847) (by decide +kernel)⟩
theorem lw_p36 : lw_okq (⟨"BundleLinksModel", "noneUp", "()Z"⟩, 36) := ⟨⟨by decide +kernel, by decide +kernel⟩, List.mem_of_getElem? (i := 593) (by decide +kernel), List.mem_of_getElem? (i := 874) (by decide +kernel), List.mem_of_getElem? (i := 875) (by decide +kernel)⟩
theorem lw_p37 : lw_okq (⟨"BundleLinksModel", "isEven", "(I)Z"⟩, 36) := ⟨⟨by decide +kernel, by decide +kernel⟩, List.mem_of_getElem? (i := 593) (by decide +kernel), List.mem_of_getElem? (i := 878) (by decide +kernel), List.mem_of_getElem? (i := 879) (by decide +kernel)⟩
theorem lw_p38 : lw_okq (⟨"BundleLinksModel", "nextUp", "(I)I"⟩, 36) := ⟨⟨by decide +kernel, by decide +kernel⟩, List.mem_of_getElem? (i := 593) (by decide +kernel), List.mem_of_getElem? (i := 887) (by decide +kernel), List.mem_of_getElem? (i := 888) (by decide +kernel)⟩
theorem lw_p39 : lw_okq (⟨"BundleLinksModel", "turns", "()Z"⟩, 36) := ⟨⟨by decide +kernel, by decide +kernel⟩, List.mem_of_getElem? (i := 593) (by decide +kernel), List.mem_of_getElem? (i := 891) (by decide +kernel), List.mem_of_getElem? (i := 892) (by decide +kernel)⟩
def lw_privs_3 : List (MethodName × Nat) := [(⟨"BundleLinksModel", "bucketsOn", "(I)I"⟩, 36), (⟨"BundleLinksModel", "inState", "(II)I"⟩, 36), (⟨"BundleLinksModel", "load", "(I)I"⟩, 36), (⟨"BundleLinksModel", "rates", "(I)I"⟩, 36), (⟨"BundleLinksModel", "noneUp", "()Z"⟩, 36), (⟨"BundleLinksModel", "isEven", "(I)Z"⟩, 36), (⟨"BundleLinksModel", "nextUp", "(I)I"⟩, 36), (⟨"BundleLinksModel", "turns", "()Z"⟩, 36)]
theorem lw_r3 : ∀ q ∈ lw_privs_3, lw_okq q := List.forall_mem_cons.mpr ⟨lw_p32, List.forall_mem_cons.mpr ⟨lw_p33, List.forall_mem_cons.mpr ⟨lw_p34, List.forall_mem_cons.mpr ⟨lw_p35, List.forall_mem_cons.mpr ⟨lw_p36, List.forall_mem_cons.mpr ⟨lw_p37, List.forall_mem_cons.mpr ⟨lw_p38, List.forall_mem_cons.mpr ⟨lw_p39, fun _ h => absurd h List.not_mem_nil⟩⟩⟩⟩⟩⟩⟩⟩
def lw_privs : List (MethodName × Nat) := lw_privs_1 ++ (lw_privs_2 ++ (lw_privs_3))
def lw_tbl : List Cond := k2_sels lw_privs ++ tables_1
theorem lw_privs_ok : ∀ q ∈ lw_privs, lw_okq q := by
  show ∀ q ∈ lw_privs_1 ++ (lw_privs_2 ++ (lw_privs_3)), lw_okq q
  exact List.forall_mem_append.mpr ⟨lw_r1, List.forall_mem_append.mpr ⟨lw_r2, lw_r3⟩⟩
/-! ===== BEGIN printed: names, fields, word lists, decode rows ===== -/
def RX0 : String := "BundleLinks$Buckets"
def TX0 : u_T := fun k => match k with
  | 0 => ("BundleLinks$Buckets", "on", "[I", true)
  | 1 => ("BundleLinks$Buckets", "to", "[I", true)
  | 2 => ("BundleLinks$Buckets", "holds", "[Z", true)
  | 3 => ("BundleLinks$Buckets", "held", "[I", true)
  | _ => ("BundleLinks$Buckets", "moved", "[I", true)
def tyX0 : Nat → FieldType := fun k => match k with
  | 0 => .array .int
  | 1 => .array .int
  | 2 => .array .boolean
  | 3 => .array .int
  | _ => .array .int
abbrev wsX00 : List Cond := u_ws RX0 TX0 5
theorem nmX0 : ∀ a, a < 5 → ∀ b, b < 5 → a ≠ b → (TX0 a).2.1 ≠ (TX0 b).2.1 := by decide +kernel
theorem tyX0_ok : ∀ k, k < 5 → parseFieldDescriptor (TX0 k).2.2.1 = some (tyX0 k) := by decide +kernel
abbrev cX0_init : ByteArray := prog_2_method_1_code
def yX0_init : MethodName := ⟨RX0, "<init>", "()V"⟩
abbrev cX0_isUnsettled : ByteArray := prog_2_method_2_code
def yX0_isUnsettled : MethodName := ⟨RX0, "isUnsettled", "(I)Z"⟩
abbrev cX0_isAnyUnsettled : ByteArray := prog_2_method_3_code
def yX0_isAnyUnsettled : MethodName := ⟨RX0, "isAnyUnsettled", "()Z"⟩
abbrev cX0_howManyOn : ByteArray := prog_2_method_4_code
def yX0_howManyOn : MethodName := ⟨RX0, "howManyOn", "(I)I"⟩
def RX1 : String := "BundleLinks$Flows"
def TX1 : u_T := fun k => match k with
  | 0 => ("BundleLinks$Flows", "count", "I", false)
  | 1 => ("BundleLinks$Flows", "a", "I", false)
  | 2 => ("BundleLinks$Flows", "c", "I", false)
  | 3 => ("BundleLinks$Flows", "rate", "[I", true)
  | 4 => ("BundleLinks$Flows", "pinned", "[I", true)
  | 5 => ("BundleLinks$Flows", "sent", "[I", true)
  | 6 => ("BundleLinks$Flows", "cameOut", "[I", true)
  | 7 => ("BundleLinks$Flows", "lost", "[I", true)
  | 8 => ("BundleLinks$Flows", "latestOut", "[I", true)
  | _ => ("BundleLinks$Flows", "mixedUp", "[Z", true)
def tyX1 : Nat → FieldType := fun k => match k with
  | 0 => .int
  | 1 => .int
  | 2 => .int
  | 3 => .array .int
  | 4 => .array .int
  | 5 => .array .int
  | 6 => .array .int
  | 7 => .array .int
  | 8 => .array .int
  | _ => .array .boolean
abbrev wsX10 : List Cond := u_ws RX1 TX1 10
theorem nmX1 : ∀ a, a < 10 → ∀ b, b < 10 → a ≠ b → (TX1 a).2.1 ≠ (TX1 b).2.1 := by decide +kernel
theorem tyX1_ok : ∀ k, k < 10 → parseFieldDescriptor (TX1 k).2.2.1 = some (tyX1 k) := by decide +kernel
abbrev cX1_init : ByteArray := prog_3_method_1_code
def yX1_init : MethodName := ⟨RX1, "<init>", "()V"⟩
abbrev cX1_add : ByteArray := prog_3_method_2_code
def yX1_add : MethodName := ⟨RX1, "add", "(I)I"⟩
abbrev cX1_bucketOf : ByteArray := prog_3_method_3_code
def yX1_bucketOf : MethodName := ⟨RX1, "bucketOf", "(I)I"⟩
abbrev cX1_hasUnended : ByteArray := prog_3_method_4_code
def yX1_hasUnended : MethodName := ⟨RX1, "hasUnended", "(I)Z"⟩
abbrev cX1_rateOfBucket : ByteArray := prog_3_method_5_code
def yX1_rateOfBucket : MethodName := ⟨RX1, "rateOfBucket", "(I)I"⟩
abbrev cX1_noteOut : ByteArray := prog_3_method_6_code
def yX1_noteOut : MethodName := ⟨RX1, "noteOut", "(II)V"⟩
def RX2 : String := "BundleLinks$Letters"
def TX2 : u_T := fun k => match k with
  | 0 => ("BundleLinks$Letters", "count", "I", false)
  | 1 => ("BundleLinks$Letters", "flow", "[I", true)
  | 2 => ("BundleLinks$Letters", "place", "[I", true)
  | 3 => ("BundleLinks$Letters", "bucket", "[I", true)
  | 4 => ("BundleLinks$Letters", "state", "[I", true)
  | 5 => ("BundleLinks$Letters", "link", "[I", true)
  | 6 => ("BundleLinks$Letters", "sentAt", "[I", true)
  | 7 => ("BundleLinks$Letters", "leftAt", "[I", true)
  | 8 => ("BundleLinks$Letters", "arrivesAt", "[I", true)
  | 9 => ("BundleLinks$Letters", "endedAt", "[I", true)
  | 10 => ("BundleLinks$Letters", "inOrderOut", "[I", true)
  | _ => ("BundleLinks$Letters", "inState", "[I", true)
def tyX2 : Nat → FieldType := fun k => match k with
  | 0 => .int
  | 1 => .array .int
  | 2 => .array .int
  | 3 => .array .int
  | 4 => .array .int
  | 5 => .array .int
  | 6 => .array .int
  | 7 => .array .int
  | 8 => .array .int
  | 9 => .array .int
  | 10 => .array .int
  | _ => .array .int
abbrev wsX20 : List Cond := u_ws RX2 TX2 12
theorem nmX2 : ∀ a, a < 12 → ∀ b, b < 12 → a ≠ b → (TX2 a).2.1 ≠ (TX2 b).2.1 := by decide +kernel
theorem tyX2_ok : ∀ k, k < 12 → parseFieldDescriptor (TX2 k).2.2.1 = some (tyX2 k) := by decide +kernel
abbrev cX2_init : ByteArray := prog_4_method_1_code
def yX2_init : MethodName := ⟨RX2, "<init>", "()V"⟩
abbrev cX2_add : ByteArray := prog_4_method_2_code
def yX2_add : MethodName := ⟨RX2, "add", "(IIII)I"⟩
abbrev cX2_turn : ByteArray := prog_4_method_3_code
def yX2_turn : MethodName := ⟨RX2, "turn", "(II)V"⟩
abbrev cX2_hasUnended : ByteArray := prog_4_method_4_code
def yX2_hasUnended : MethodName := ⟨RX2, "hasUnended", "()Z"⟩
abbrev cX2_isAnyUnderway : ByteArray := prog_4_method_5_code
def yX2_isAnyUnderway : MethodName := ⟨RX2, "isAnyUnderway", "()Z"⟩
def RX3 : String := "BundleLinks$Links"
def TX3 : u_T := fun k => match k with
  | 0 => ("BundleLinks$Links", "count", "I", false)
  | 1 => ("BundleLinks$Links", "speed", "[I", true)
  | 2 => ("BundleLinks$Links", "delay", "[I", true)
  | 3 => ("BundleLinks$Links", "up", "[Z", true)
  | 4 => ("BundleLinks$Links", "row", "[[I", true)
  | 5 => ("BundleLinks$Links", "wayStart", "[I", true)
  | 6 => ("BundleLinks$Links", "queueStart", "[I", true)
  | 7 => ("BundleLinks$Links", "queueEnd", "[I", true)
  | _ => ("BundleLinks$Links", "leftEver", "[I", true)
def tyX3 : Nat → FieldType := fun k => match k with
  | 0 => .int
  | 1 => .array .int
  | 2 => .array .int
  | 3 => .array .boolean
  | 4 => .array (.array .int)
  | 5 => .array .int
  | 6 => .array .int
  | 7 => .array .int
  | _ => .array .int
abbrev wsX30 : List Cond := u_ws RX3 TX3 9
theorem nmX3 : ∀ a, a < 9 → ∀ b, b < 9 → a ≠ b → (TX3 a).2.1 ≠ (TX3 b).2.1 := by decide +kernel
theorem tyX3_ok : ∀ k, k < 9 → parseFieldDescriptor (TX3 k).2.2.1 = some (tyX3 k) := by decide +kernel
abbrev cX3_init : ByteArray := prog_5_method_1_code
def yX3_init : MethodName := ⟨RX3, "<init>", "()V"⟩
abbrev cX3_add : ByteArray := prog_5_method_2_code
def yX3_add : MethodName := ⟨RX3, "add", "(II)I"⟩
abbrev cX3_isAnyUp : ByteArray := prog_5_method_3_code
def yX3_isAnyUp : MethodName := ⟨RX3, "isAnyUp", "()Z"⟩
def RX4 : String := "BundleLinks$Planner"
def TX4 : u_T := fun k => match k with
  | 0 => ("BundleLinks$Planner", "hasPlan", "Z", false)
  | 1 => ("BundleLinks$Planner", "latest", "[I", true)
  | 2 => ("BundleLinks$Planner", "links", "LBundleLinks$Links;", true)
  | 3 => ("BundleLinks$Planner", "buckets", "LBundleLinks$Buckets;", true)
  | 4 => ("BundleLinks$Planner", "flows", "LBundleLinks$Flows;", true)
  | 5 => ("BundleLinks$Planner", "weight", "[I", true)
  | 6 => ("BundleLinks$Planner", "load", "[I", true)
  | 7 => ("BundleLinks$Planner", "trial", "[I", true)
  | 8 => ("BundleLinks$Planner", "allSpeeds", "I", false)
  | 9 => ("BundleLinks$Planner", "allLoads", "I", false)
  | 10 => ("BundleLinks$Planner", "evenness", "I", false)
  | _ => ("BundleLinks$Planner", "fewest", "I", false)
def tyX4 : Nat → FieldType := fun k => match k with
  | 0 => .boolean
  | 1 => .array .int
  | 2 => .object "BundleLinks$Links"
  | 3 => .object "BundleLinks$Buckets"
  | 4 => .object "BundleLinks$Flows"
  | 5 => .array .int
  | 6 => .array .int
  | 7 => .array .int
  | 8 => .int
  | 9 => .int
  | 10 => .int
  | _ => .int
abbrev wsX40 : List Cond := u_ws RX4 TX4 12
theorem nmX4 : ∀ a, a < 12 → ∀ b, b < 12 → a ≠ b → (TX4 a).2.1 ≠ (TX4 b).2.1 := by decide +kernel
theorem tyX4_ok : ∀ k, k < 12 → parseFieldDescriptor (TX4 k).2.2.1 = some (tyX4 k) := by decide +kernel
abbrev cX4_init : ByteArray := prog_6_method_1_code
def yX4_init : MethodName := ⟨RX4, "<init>", "(LBundleLinks$Links;LBundleLinks$Buckets;LBundleLinks$Flows;)V"⟩
abbrev cX4_loadOf : ByteArray := prog_6_method_2_code
def yX4_loadOf : MethodName := ⟨RX4, "loadOf", "(I)I"⟩
abbrev cX4_isEven : ByteArray := prog_6_method_3_code
def yX4_isEven : MethodName := ⟨RX4, "isEven", "(I)Z"⟩
abbrev cX4_measure : ByteArray := prog_6_method_4_code
def yX4_measure : MethodName := ⟨RX4, "measure", "(I)V"⟩
abbrev cX4_isWithinShare : ByteArray := prog_6_method_5_code
def yX4_isWithinShare : MethodName := ⟨RX4, "isWithinShare", "(II)Z"⟩
abbrev cX4_fewestMoves : ByteArray := prog_6_method_6_code
def yX4_fewestMoves : MethodName := ⟨RX4, "fewestMoves", "(I)I"⟩
abbrev cX4_place : ByteArray := prog_6_method_7_code
def yX4_place : MethodName := ⟨RX4, "place", "(II)V"⟩
abbrev cX4_placeOn : ByteArray := prog_6_method_8_code
def yX4_placeOn : MethodName := ⟨RX4, "placeOn", "(III)V"⟩
abbrev cX4_keep : ByteArray := prog_6_method_9_code
def yX4_keep : MethodName := ⟨RX4, "keep", "(I)V"⟩
def RX5 : String := "BundleLinks$Traffic"
def TX5 : u_T := fun k => match k with
  | 0 => ("BundleLinks$Traffic", "time", "I", false)
  | 1 => ("BundleLinks$Traffic", "numbersOn", "Z", false)
  | 2 => ("BundleLinks$Traffic", "links", "LBundleLinks$Links;", true)
  | 3 => ("BundleLinks$Traffic", "buckets", "LBundleLinks$Buckets;", true)
  | 4 => ("BundleLinks$Traffic", "flows", "LBundleLinks$Flows;", true)
  | 5 => ("BundleLinks$Traffic", "letters", "LBundleLinks$Letters;", true)
  | _ => ("BundleLinks$Traffic", "blocked", "[Z", true)
def tyX5 : Nat → FieldType := fun k => match k with
  | 0 => .int
  | 1 => .boolean
  | 2 => .object "BundleLinks$Links"
  | 3 => .object "BundleLinks$Buckets"
  | 4 => .object "BundleLinks$Flows"
  | 5 => .object "BundleLinks$Letters"
  | _ => .array .boolean
abbrev wsX50 : List Cond := u_ws RX5 TX5 7
theorem nmX5 : ∀ a, a < 7 → ∀ b, b < 7 → a ≠ b → (TX5 a).2.1 ≠ (TX5 b).2.1 := by decide +kernel
theorem tyX5_ok : ∀ k, k < 7 → parseFieldDescriptor (TX5 k).2.2.1 = some (tyX5 k) := by decide +kernel
abbrev cX5_init : ByteArray := prog_7_method_1_code
def yX5_init : MethodName := ⟨RX5, "<init>", "(LBundleLinks$Links;LBundleLinks$Buckets;LBundleLinks$Flows;LBundleLinks$Letters;)V"⟩
abbrev cX5_post : ByteArray := prog_7_method_2_code
def yX5_post : MethodName := ⟨RX5, "post", "(I)V"⟩
abbrev cX5_enqueue : ByteArray := prog_7_method_3_code
def yX5_enqueue : MethodName := ⟨RX5, "enqueue", "(II)V"⟩
abbrev cX5_isBusy : ByteArray := prog_7_method_4_code
def yX5_isBusy : MethodName := ⟨RX5, "isBusy", "()Z"⟩
abbrev cX5_passTick : ByteArray := prog_7_method_5_code
def yX5_passTick : MethodName := ⟨RX5, "passTick", "()V"⟩
abbrev cX5_leave : ByteArray := prog_7_method_6_code
def yX5_leave : MethodName := ⟨RX5, "leave", "(I)V"⟩
abbrev cX5_arrive : ByteArray := prog_7_method_7_code
def yX5_arrive : MethodName := ⟨RX5, "arrive", "(I)V"⟩
abbrev cX5_letOutInOrder : ByteArray := prog_7_method_8_code
def yX5_letOutInOrder : MethodName := ⟨RX5, "letOutInOrder", "()V"⟩
abbrev cX5_letOut : ByteArray := prog_7_method_9_code
def yX5_letOut : MethodName := ⟨RX5, "letOut", "(I)V"⟩
abbrev cX5_startMove : ByteArray := prog_7_method_10_code
def yX5_startMove : MethodName := ⟨RX5, "startMove", "(III)Z"⟩
abbrev cX5_settle : ByteArray := prog_7_method_11_code
def yX5_settle : MethodName := ⟨RX5, "settle", "(I)V"⟩
abbrev cX5_mayReach : ByteArray := prog_7_method_12_code
def yX5_mayReach : MethodName := ⟨RX5, "mayReach", "(II)Z"⟩
abbrev cX5_reach : ByteArray := prog_7_method_13_code
def yX5_reach : MethodName := ⟨RX5, "reach", "(II)V"⟩
abbrev cX5_release : ByteArray := prog_7_method_14_code
def yX5_release : MethodName := ⟨RX5, "release", "(I)I"⟩
abbrev cX5_cancelMove : ByteArray := prog_7_method_15_code
def yX5_cancelMove : MethodName := ⟨RX5, "cancelMove", "(I)I"⟩
abbrev cX5_breakLink : ByteArray := prog_7_method_16_code
def yX5_breakLink : MethodName := ⟨RX5, "breakLink", "(I)I"⟩
abbrev cX5_loseLetters : ByteArray := prog_7_method_17_code
def yX5_loseLetters : MethodName := ⟨RX5, "loseLetters", "(I)I"⟩
abbrev cX5_upLinkWithFewestBuckets : ByteArray := prog_7_method_18_code
def yX5_upLinkWithFewestBuckets : MethodName := ⟨RX5, "upLinkWithFewestBuckets", "()I"⟩
abbrev cX5_takeIn : ByteArray := prog_7_method_19_code
def yX5_takeIn : MethodName := ⟨RX5, "takeIn", "(I)I"⟩
def RX6 : String := "BundleLinks"
def TX6 : u_T := fun k => match k with
  | 0 => ("BundleLinks", "links", "LBundleLinks$Links;", true)
  | 1 => ("BundleLinks", "buckets", "LBundleLinks$Buckets;", true)
  | 2 => ("BundleLinks", "flows", "LBundleLinks$Flows;", true)
  | 3 => ("BundleLinks", "letters", "LBundleLinks$Letters;", true)
  | 4 => ("BundleLinks", "traffic", "LBundleLinks$Traffic;", true)
  | _ => ("BundleLinks", "planner", "LBundleLinks$Planner;", true)
def tyX6 : Nat → FieldType := fun k => match k with
  | 0 => .object "BundleLinks$Links"
  | 1 => .object "BundleLinks$Buckets"
  | 2 => .object "BundleLinks$Flows"
  | 3 => .object "BundleLinks$Letters"
  | 4 => .object "BundleLinks$Traffic"
  | _ => .object "BundleLinks$Planner"
abbrev wsX60 : List Cond := u_ws RX6 TX6 6
theorem nmX6 : ∀ a, a < 6 → ∀ b, b < 6 → a ≠ b → (TX6 a).2.1 ≠ (TX6 b).2.1 := by decide +kernel
theorem tyX6_ok : ∀ k, k < 6 → parseFieldDescriptor (TX6 k).2.2.1 = some (tyX6 k) := by decide +kernel
abbrev cX6_init : ByteArray := prog_1_method_1_code
def yX6_init : MethodName := ⟨RX6, "<init>", "()V"⟩
abbrev cX6_link : ByteArray := prog_1_method_2_code
def yX6_link : MethodName := ⟨RX6, "link", "(II)I"⟩
abbrev cX6_flow : ByteArray := prog_1_method_3_code
def yX6_flow : MethodName := ⟨RX6, "flow", "(I)I"⟩
abbrev cX6_rate : ByteArray := prog_1_method_4_code
def yX6_rate : MethodName := ⟨RX6, "rate", "(II)I"⟩
abbrev cX6_pin : ByteArray := prog_1_method_5_code
def yX6_pin : MethodName := ⟨RX6, "pin", "(II)I"⟩
abbrev cX6_hash : ByteArray := prog_1_method_6_code
def yX6_hash : MethodName := ⟨RX6, "hash", "(II)I"⟩
abbrev cX6_numbers : ByteArray := prog_1_method_7_code
def yX6_numbers : MethodName := ⟨RX6, "numbers", "(Z)I"⟩
abbrev cX6_send : ByteArray := prog_1_method_8_code
def yX6_send : MethodName := ⟨RX6, "send", "(II)I"⟩
abbrev cX6_tick : ByteArray := prog_1_method_9_code
def yX6_tick : MethodName := ⟨RX6, "tick", "(I)I"⟩
abbrev cX6_move : ByteArray := prog_1_method_10_code
def yX6_move : MethodName := ⟨RX6, "move", "(III)I"⟩
abbrev cX6_drop : ByteArray := prog_1_method_11_code
def yX6_drop : MethodName := ⟨RX6, "drop", "(I)I"⟩
abbrev cX6_fail : ByteArray := prog_1_method_12_code
def yX6_fail : MethodName := ⟨RX6, "fail", "(I)I"⟩
abbrev cX6_back : ByteArray := prog_1_method_13_code
def yX6_back : MethodName := ⟨RX6, "back", "(I)I"⟩
abbrev cX6_letter : ByteArray := prog_1_method_14_code
def yX6_letter : MethodName := ⟨RX6, "letter", "(II)I"⟩
abbrev cX6_about : ByteArray := prog_1_method_15_code
def yX6_about : MethodName := ⟨RX6, "about", "(II)I"⟩
abbrev cX6_bucket : ByteArray := prog_1_method_16_code
def yX6_bucket : MethodName := ⟨RX6, "bucket", "(II)I"⟩
abbrev cX6_ofFlow : ByteArray := prog_1_method_17_code
def yX6_ofFlow : MethodName := ⟨RX6, "ofFlow", "(II)I"⟩
abbrev cX6_out : ByteArray := prog_1_method_18_code
def yX6_out : MethodName := ⟨RX6, "out", "(I)I"⟩
abbrev cX6_ordered : ByteArray := prog_1_method_19_code
def yX6_ordered : MethodName := ⟨RX6, "ordered", "(I)I"⟩
abbrev cX6_told : ByteArray := prog_1_method_20_code
def yX6_told : MethodName := ⟨RX6, "told", "(I)I"⟩
abbrev cX6_even : ByteArray := prog_1_method_21_code
def yX6_even : MethodName := ⟨RX6, "even", "(I)I"⟩
abbrev cX6_least : ByteArray := prog_1_method_22_code
def yX6_least : MethodName := ⟨RX6, "least", "(I)I"⟩
abbrev cX6_plan : ByteArray := prog_1_method_23_code
def yX6_plan : MethodName := ⟨RX6, "plan", "(I)I"⟩
abbrev cX6_isWithin : ByteArray := prog_1_method_24_code
def yX6_isWithin : MethodName := ⟨RX6, "isWithin", "(III)Z"⟩
abbrev cX6_isBelow : ByteArray := prog_1_method_25_code
def yX6_isBelow : MethodName := ⟨RX6, "isBelow", "(II)Z"⟩
abbrev cX6_oneIf : ByteArray := prog_1_method_26_code
def yX6_oneIf : MethodName := ⟨RX6, "oneIf", "(Z)I"⟩
def RX7 : String := "BundleLinksModel"
def TX7 : u_T := fun k => match k with
  | 0 => ("BundleLinksModel", "time", "I", false)
  | 1 => ("BundleLinksModel", "links", "I", false)
  | 2 => ("BundleLinksModel", "speed", "[I", true)
  | 3 => ("BundleLinksModel", "delay", "[I", true)
  | 4 => ("BundleLinksModel", "isUp", "[Z", true)
  | 5 => ("BundleLinksModel", "leftBy", "[I", true)
  | 6 => ("BundleLinksModel", "on", "[I", true)
  | 7 => ("BundleLinksModel", "to", "[I", true)
  | 8 => ("BundleLinksModel", "holds", "[Z", true)
  | 9 => ("BundleLinksModel", "moves", "[I", true)
  | 10 => ("BundleLinksModel", "flows", "I", false)
  | 11 => ("BundleLinksModel", "rate", "[I", true)
  | 12 => ("BundleLinksModel", "pinned", "[I", true)
  | 13 => ("BundleLinksModel", "times", "I", false)
  | 14 => ("BundleLinksModel", "plus", "I", false)
  | 15 => ("BundleLinksModel", "numbers", "Z", false)
  | 16 => ("BundleLinksModel", "letters", "I", false)
  | 17 => ("BundleLinksModel", "flowOf", "[I", true)
  | 18 => ("BundleLinksModel", "place", "[I", true)
  | 19 => ("BundleLinksModel", "bucketOf", "[I", true)
  | 20 => ("BundleLinksModel", "state", "[I", true)
  | 21 => ("BundleLinksModel", "linkOf", "[I", true)
  | 22 => ("BundleLinksModel", "sent", "[I", true)
  | 23 => ("BundleLinksModel", "left", "[I", true)
  | 24 => ("BundleLinksModel", "arrives", "[I", true)
  | 25 => ("BundleLinksModel", "done", "[I", true)
  | 26 => ("BundleLinksModel", "queueStamp", "[I", true)
  | 27 => ("BundleLinksModel", "leaveStamp", "[I", true)
  | 28 => ("BundleLinksModel", "stamp", "I", false)
  | 29 => ("BundleLinksModel", "outs", "I", false)
  | 30 => ("BundleLinksModel", "out", "[I", true)
  | 31 => ("BundleLinksModel", "hasPlan", "Z", false)
  | 32 => ("BundleLinksModel", "plan", "[I", true)
  | 33 => ("BundleLinksModel", "loads", "[I", true)
  | 34 => ("BundleLinksModel", "share", "[I", true)
  | _ => ("BundleLinksModel", "trial", "[I", true)
def tyX7 : Nat → FieldType := fun k => match k with
  | 0 => .int
  | 1 => .int
  | 2 => .array .int
  | 3 => .array .int
  | 4 => .array .boolean
  | 5 => .array .int
  | 6 => .array .int
  | 7 => .array .int
  | 8 => .array .boolean
  | 9 => .array .int
  | 10 => .int
  | 11 => .array .int
  | 12 => .array .int
  | 13 => .int
  | 14 => .int
  | 15 => .boolean
  | 16 => .int
  | 17 => .array .int
  | 18 => .array .int
  | 19 => .array .int
  | 20 => .array .int
  | 21 => .array .int
  | 22 => .array .int
  | 23 => .array .int
  | 24 => .array .int
  | 25 => .array .int
  | 26 => .array .int
  | 27 => .array .int
  | 28 => .int
  | 29 => .int
  | 30 => .array .int
  | 31 => .boolean
  | 32 => .array .int
  | 33 => .array .int
  | 34 => .array .int
  | _ => .array .int
abbrev wsX70 : List Cond := u_ws RX7 TX7 36
theorem nmX7 : ∀ a, a < 36 → ∀ b, b < 36 → a ≠ b → (TX7 a).2.1 ≠ (TX7 b).2.1 := by decide +kernel
theorem tyX7_ok : ∀ k, k < 36 → parseFieldDescriptor (TX7 k).2.2.1 = some (tyX7 k) := by decide +kernel
abbrev cX7_init : ByteArray := prog_9_method_1_code
def yX7_init : MethodName := ⟨RX7, "<init>", "()V"⟩
abbrev cX7_in : ByteArray := prog_9_method_2_code
def yX7_in : MethodName := ⟨RX7, "in", "(III)Z"⟩
abbrev cX7_isLink : ByteArray := prog_9_method_3_code
def yX7_isLink : MethodName := ⟨RX7, "isLink", "(I)Z"⟩
abbrev cX7_isFlow : ByteArray := prog_9_method_4_code
def yX7_isFlow : MethodName := ⟨RX7, "isFlow", "(I)Z"⟩
abbrev cX7_link : ByteArray := prog_9_method_5_code
def yX7_link : MethodName := ⟨RX7, "link", "(II)I"⟩
abbrev cX7_takes : ByteArray := prog_9_method_6_code
def yX7_takes : MethodName := ⟨RX7, "takes", "(I)I"⟩
abbrev cX7_lets : ByteArray := prog_9_method_7_code
def yX7_lets : MethodName := ⟨RX7, "lets", "(I)I"⟩
abbrev cX7_queue : ByteArray := prog_9_method_8_code
def yX7_queue : MethodName := ⟨RX7, "queue", "(II)V"⟩
abbrev cX7_flow : ByteArray := prog_9_method_9_code
def yX7_flow : MethodName := ⟨RX7, "flow", "(I)I"⟩
abbrev cX7_rate : ByteArray := prog_9_method_10_code
def yX7_rate : MethodName := ⟨RX7, "rate", "(II)I"⟩
abbrev cX7_bucketNow : ByteArray := prog_9_method_11_code
def yX7_bucketNow : MethodName := ⟨RX7, "bucketNow", "(I)I"⟩
abbrev cX7_hasOpen : ByteArray := prog_9_method_12_code
def yX7_hasOpen : MethodName := ⟨RX7, "hasOpen", "(I)Z"⟩
abbrev cX7_pin : ByteArray := prog_9_method_13_code
def yX7_pin : MethodName := ⟨RX7, "pin", "(II)I"⟩
abbrev cX7_hash : ByteArray := prog_9_method_14_code
def yX7_hash : MethodName := ⟨RX7, "hash", "(II)I"⟩
abbrev cX7_numbers : ByteArray := prog_9_method_15_code
def yX7_numbers : MethodName := ⟨RX7, "numbers", "(Z)I"⟩
abbrev cX7_held : ByteArray := prog_9_method_16_code
def yX7_held : MethodName := ⟨RX7, "held", "(I)I"⟩
abbrev cX7_ofFlowIn : ByteArray := prog_9_method_17_code
def yX7_ofFlowIn : MethodName := ⟨RX7, "ofFlowIn", "(II)I"⟩
abbrev cX7_send : ByteArray := prog_9_method_18_code
def yX7_send : MethodName := ⟨RX7, "send", "(II)I"⟩
abbrev cX7_firstQueued : ByteArray := prog_9_method_19_code
def yX7_firstQueued : MethodName := ⟨RX7, "firstQueued", "(I)I"⟩
abbrev cX7_firstArriving : ByteArray := prog_9_method_20_code
def yX7_firstArriving : MethodName := ⟨RX7, "firstArriving", "(I)I"⟩
abbrev cX7_comesOut : ByteArray := prog_9_method_21_code
def yX7_comesOut : MethodName := ⟨RX7, "comesOut", "(I)V"⟩
abbrev cX7_isNext : ByteArray := prog_9_method_22_code
def yX7_isNext : MethodName := ⟨RX7, "isNext", "(I)Z"⟩
abbrev cX7_tick1 : ByteArray := prog_9_method_23_code
def yX7_tick1 : MethodName := ⟨RX7, "tick1", "()V"⟩
abbrev cX7_tick : ByteArray := prog_9_method_24_code
def yX7_tick : MethodName := ⟨RX7, "tick", "(I)I"⟩
abbrev cX7_canCome : ByteArray := prog_9_method_25_code
def yX7_canCome : MethodName := ⟨RX7, "canCome", "(II)Z"⟩
abbrev cX7_settle : ByteArray := prog_9_method_26_code
def yX7_settle : MethodName := ⟨RX7, "settle", "(I)I"⟩
abbrev cX7_isBucket : ByteArray := prog_9_method_27_code
def yX7_isBucket : MethodName := ⟨RX7, "isBucket", "(I)Z"⟩
abbrev cX7_move : ByteArray := prog_9_method_28_code
def yX7_move : MethodName := ⟨RX7, "move", "(III)I"⟩
abbrev cX7_drop : ByteArray := prog_9_method_29_code
def yX7_drop : MethodName := ⟨RX7, "drop", "(I)I"⟩
abbrev cX7_bucketsOn : ByteArray := prog_9_method_30_code
def yX7_bucketsOn : MethodName := ⟨RX7, "bucketsOn", "(I)I"⟩
abbrev cX7_fail : ByteArray := prog_9_method_31_code
def yX7_fail : MethodName := ⟨RX7, "fail", "(I)I"⟩
abbrev cX7_back : ByteArray := prog_9_method_32_code
def yX7_back : MethodName := ⟨RX7, "back", "(I)I"⟩
abbrev cX7_letter : ByteArray := prog_9_method_33_code
def yX7_letter : MethodName := ⟨RX7, "letter", "(II)I"⟩
abbrev cX7_inState : ByteArray := prog_9_method_34_code
def yX7_inState : MethodName := ⟨RX7, "inState", "(II)I"⟩
abbrev cX7_rates : ByteArray := prog_9_method_35_code
def yX7_rates : MethodName := ⟨RX7, "rates", "(I)I"⟩
abbrev cX7_load : ByteArray := prog_9_method_36_code
def yX7_load : MethodName := ⟨RX7, "load", "(I)I"⟩
abbrev cX7_about : ByteArray := prog_9_method_37_code
def yX7_about : MethodName := ⟨RX7, "about", "(II)I"⟩
abbrev cX7_bucket : ByteArray := prog_9_method_38_code
def yX7_bucket : MethodName := ⟨RX7, "bucket", "(II)I"⟩
abbrev cX7_ofFlow : ByteArray := prog_9_method_39_code
def yX7_ofFlow : MethodName := ⟨RX7, "ofFlow", "(II)I"⟩
abbrev cX7_out : ByteArray := prog_9_method_40_code
def yX7_out : MethodName := ⟨RX7, "out", "(I)I"⟩
abbrev cX7_ordered : ByteArray := prog_9_method_41_code
def yX7_ordered : MethodName := ⟨RX7, "ordered", "(I)I"⟩
abbrev cX7_told : ByteArray := prog_9_method_42_code
def yX7_told : MethodName := ⟨RX7, "told", "(I)I"⟩
abbrev cX7_noneUp : ByteArray := prog_9_method_43_code
def yX7_noneUp : MethodName := ⟨RX7, "noneUp", "()Z"⟩
abbrev cX7_isEven : ByteArray := prog_9_method_44_code
def yX7_isEven : MethodName := ⟨RX7, "isEven", "(I)Z"⟩
abbrev cX7_even : ByteArray := prog_9_method_45_code
def yX7_even : MethodName := ⟨RX7, "even", "(I)I"⟩
abbrev cX7_nextUp : ByteArray := prog_9_method_46_code
def yX7_nextUp : MethodName := ⟨RX7, "nextUp", "(I)I"⟩
abbrev cX7_turns : ByteArray := prog_9_method_47_code
def yX7_turns : MethodName := ⟨RX7, "turns", "()Z"⟩
abbrev cX7_least : ByteArray := prog_9_method_48_code
def yX7_least : MethodName := ⟨RX7, "least", "(I)I"⟩
abbrev cX7_plan : ByteArray := prog_9_method_49_code
def yX7_plan : MethodName := ⟨RX7, "plan", "(I)I"⟩
def RJ9 : String := "java/lang/Math"
def TJ9 : u_T := fun k => match k with
  | _ => ("", "", "", false)
def tyJ9 : Nat → FieldType := fun k => match k with
  | _ => .int
abbrev wsJ90 : List Cond := u_ws RJ9 TJ9 0
theorem nmJ9 : ∀ a, a < 0 → ∀ b, b < 0 → a ≠ b → (TJ9 a).2.1 ≠ (TJ9 b).2.1 := by decide +kernel
theorem tyJ9_ok : ∀ k, k < 0 → parseFieldDescriptor (TJ9 k).2.2.1 = some (tyJ9 k) := by decide +kernel
abbrev cJ9_min_7cf53 : ByteArray := prog_10_method_69_code
def yJ9_min_7cf53 : MethodName := ⟨RJ9, "min", "(II)I"⟩
def RJ10 : String := "java/lang/System"
def TJ10 : u_T := fun k => match k with
  | _ => ("", "", "", false)
def tyJ10 : Nat → FieldType := fun k => match k with
  | _ => .int
abbrev wsJ100 : List Cond := u_ws RJ10 TJ10 0
theorem nmJ10 : ∀ a, a < 0 → ∀ b, b < 0 → a ≠ b → (TJ10 a).2.1 ≠ (TJ10 b).2.1 := by decide +kernel
theorem tyJ10_ok : ∀ k, k < 0 → parseFieldDescriptor (TJ10 k).2.2.1 = some (tyJ10 k) := by decide +kernel
def RL : String := "BundleLinksLaw"
abbrev cL_law : ByteArray := code
def yL_law : MethodName := ⟨RL, "law", "([I)Z"⟩
abbrev vwCl : List vw_C := [(RX0, TX0, 5), (RX1, TX1, 10), (RX2, TX2, 12), (RX3, TX3, 9), (RX4, TX4, 12), (RX5, TX5, 7), (RX6, TX6, 6), (RX7, TX7, 36)]
end
section
/-! The pure pictures: values by numbers of cells ('ids'), a memory of whole numbers, and the world of cells that it stands for. -/
abbrev PV : Type := Option (Int ⊕ (Nat ⊕ Int))
abbrev vI (x : Int) : PV := some (.inl x)
abbrev vR (r : Nat) : PV := some (.inr (.inl r))
abbrev vL (x : Int) : PV := some (.inr (.inr x))
abbrev Mem : Type := Nat → Int → Int
def mw (M : Mem) (r : Nat) (i v : Int) : Mem := fun a b => if a = r ∧ b = i then v else M a b
def rng (x : Int) : Prop := -2147483648 ≤ x ∧ x ≤ 2147483647
def cv (ad : Nat → Nat) (v : PV) : Value := match v with
  | some (.inl x) => .int (Int32.ofInt x)
  | some (.inr (.inl r)) => .ref (ad r)
  | some (.inr (.inr x)) => .long (Int64.ofInt x)
  | none => .null
/-- the cells: an object (its class's number; a field: a number, or the cell that it holds), or an array (0 ints, 1 booleans, from 2 on: rows that begin at that cell; its length) -/
abbrev Shp : Type := (Nat × List (Option Nat)) ⊕ (Nat × Nat)
def shL : List Shp := [/- 0 -/ .inl (6, [some 1, some 2, some 3, some 4, some 5, some 6]),
  /- 1 -/ .inl (3, [none, some 7, some 8, some 9, some 10, some 15, some 16, some 17, some 18]),
  /- 2 -/ .inl (0, [some 19, some 20, some 21, some 22, some 23]),
  /- 3 -/ .inl (1, [none, none, none, some 24, some 25, some 26, some 27, some 28, some 29, some 30]),
  /- 4 -/ .inl (2, [none, some 31, some 32, some 33, some 34, some 35, some 36, some 37, some 38, some 39, some 40, some 41]),
  /- 5 -/ .inl (5, [none, none, some 1, some 2, some 3, some 4, some 42]),
  /- 6 -/ .inl (4, [none, some 43, some 1, some 2, some 3, some 44, some 45, some 46, none, none, none, none]),
  /- 7 -/ .inr (0, 4),
  /- 8 -/ .inr (0, 4),
  /- 9 -/ .inr (1, 4),
  /- 10 -/ .inr (11, 4),
  /- 11 -/ .inr (0, 400),
  /- 12 -/ .inr (0, 400),
  /- 13 -/ .inr (0, 400),
  /- 14 -/ .inr (0, 400),
  /- 15 -/ .inr (0, 4),
  /- 16 -/ .inr (0, 4),
  /- 17 -/ .inr (0, 4),
  /- 18 -/ .inr (0, 4),
  /- 19 -/ .inr (0, 8),
  /- 20 -/ .inr (0, 8),
  /- 21 -/ .inr (1, 8),
  /- 22 -/ .inr (0, 8),
  /- 23 -/ .inr (0, 8),
  /- 24 -/ .inr (0, 16),
  /- 25 -/ .inr (0, 16),
  /- 26 -/ .inr (0, 16),
  /- 27 -/ .inr (0, 16),
  /- 28 -/ .inr (0, 16),
  /- 29 -/ .inr (0, 16),
  /- 30 -/ .inr (1, 16),
  /- 31 -/ .inr (0, 400),
  /- 32 -/ .inr (0, 400),
  /- 33 -/ .inr (0, 400),
  /- 34 -/ .inr (0, 400),
  /- 35 -/ .inr (0, 400),
  /- 36 -/ .inr (0, 400),
  /- 37 -/ .inr (0, 400),
  /- 38 -/ .inr (0, 400),
  /- 39 -/ .inr (0, 400),
  /- 40 -/ .inr (0, 400),
  /- 41 -/ .inr (0, 6),
  /- 42 -/ .inr (1, 16),
  /- 43 -/ .inr (0, 8),
  /- 44 -/ .inr (0, 8),
  /- 45 -/ .inr (0, 4),
  /- 46 -/ .inr (0, 8),
  /- 47 -/ .inl (7, [none, none, some 48, some 49, some 50, some 51, some 52, some 53, some 54, some 55, none, some 56, some 57, none, none, none, none, some 58, some 59, some 60, some 61, some 62, some 63, some 64, some 65, some 66, some 67, some 68, none, none, some 69, none, some 70, some 71, some 72, some 73]),
  /- 48 -/ .inr (0, 4),
  /- 49 -/ .inr (0, 4),
  /- 50 -/ .inr (1, 4),
  /- 51 -/ .inr (0, 4),
  /- 52 -/ .inr (0, 8),
  /- 53 -/ .inr (0, 8),
  /- 54 -/ .inr (1, 8),
  /- 55 -/ .inr (0, 8),
  /- 56 -/ .inr (0, 16),
  /- 57 -/ .inr (0, 16),
  /- 58 -/ .inr (0, 400),
  /- 59 -/ .inr (0, 400),
  /- 60 -/ .inr (0, 400),
  /- 61 -/ .inr (0, 400),
  /- 62 -/ .inr (0, 400),
  /- 63 -/ .inr (0, 400),
  /- 64 -/ .inr (0, 400),
  /- 65 -/ .inr (0, 400),
  /- 66 -/ .inr (0, 400),
  /- 67 -/ .inr (0, 400),
  /- 68 -/ .inr (0, 400),
  /- 69 -/ .inr (0, 400),
  /- 70 -/ .inr (0, 8),
  /- 71 -/ .inr (0, 4),
  /- 72 -/ .inr (0, 8),
  /- 73 -/ .inr (0, 8)]
def shf : List Shp → Nat → Option Shp
  | [], _ => none
  | a :: _, 0 => some a
  | _ :: l, n + 1 => shf l n
def shp (r : Nat) : Option Shp := shf shL r
abbrev Cs : Type := ClassId × ClassId × ClassId
def fvl (ad : Nat → Nat) (M : Mem) (r k : Nat) (o : Option Nat) : Value := match o with
  | none => .int (Int32.ofInt (M r k))
  | some q => .ref (ad q)
def cel (cs : Cs) (ad : Nat → Nat) (M : Mem) (r : Nat) (sh : Shp) : va_E := match sh with
  | .inl (ci, fs) => .inr (ci, fs.mapIdx (fun k o => fvl ad M r k o))
  | .inr (0, n) => .inl (cs.1, n, .inl (fun j => Int32.ofInt (M r j)))
  | .inr (1, n) => .inl (cs.2.1, n, .inl (fun j => Int32.ofInt (M r j)))
  | .inr (b + 2, n) => .inl (cs.2.2, n, .inr (.inr (.inr (.inr (fun j => some (ad (b + 2 + j)))))))
def wld (cs : Cs) (ad : Nat → Nat) (M : Mem) : va_W := shL.mapIdx (fun r sh => (ad r, cel cs ad M r sh))
theorem shf_eq : ∀ (l : List Shp) (r : Nat), shf l r = l[r]?
  | [], r => by simp [shf]
  | a :: l, 0 => by simp [shf]
  | a :: l, r + 1 => by simp [shf, shf_eq l r]
theorem wld_get {cs : Cs} {ad : Nat → Nat} {M : Mem} {r : Nat} {sh : Shp} (h : shp r = some sh) : (wld cs ad M)[r]? = some (ad r, cel cs ad M r sh) := by
  unfold shp at h
  rw [shf_eq] at h
  simp [wld, List.getElem?_mapIdx, h]
theorem wld_len (cs : Cs) (ad : Nat → Nat) (M : Mem) : (wld cs ad M).length = 74 := by simp [wld, shL]
theorem wld_at {cs : Cs} {ad : Nat → Nat} {M : Mem} {r : Nat} {q : Nat × va_E} (h : (wld cs ad M)[r]? = some q) : ∃ sh, shp r = some sh ∧ q = (ad r, cel cs ad M r sh) := by
  simp only [wld, List.getElem?_mapIdx, Option.map_eq_some_iff] at h
  obtain ⟨sh, h1, h2⟩ := h
  exact ⟨sh, by unfold shp; rw [shf_eq]; exact h1, h2.symm⟩
theorem mw_s (M : Mem) (r : Nat) (i v : Int) : mw M r i v r i = v := by simp [mw]
theorem mw_r (M : Mem) {r r' : Nat} (i v : Int) (h : r' ≠ r) : mw M r i v r' = M r' := by funext b; simp [mw, h]
theorem mw_i (M : Mem) (r : Nat) {i i' : Int} (v : Int) (h : i' ≠ i) : mw M r i v r i' = M r i' := by simp [mw, h]
theorem mw_e (M : Mem) (r : Nat) (i v : Int) (r' : Nat) (i' : Int) : mw M r i v r' i' = if r' = r ∧ i' = i then v else M r' i' := rfl
theorem cel_other {cs : Cs} {ad : Nat → Nat} {M : Mem} {r r' : Nat} {i v : Int} {sh : Shp} (h : r' ≠ r) : cel cs ad (mw M r i v) r' sh = cel cs ad M r' sh := by
  have e : mw M r i v r' = M r' := mw_r M i v h
  rcases sh with ⟨ci, fs⟩ | ⟨k, n⟩
  · simp [cel, fvl, e]
  · match k with
    | 0 => simp [cel, e]
    | 1 => simp [cel, e]
    | b + 2 => rfl
theorem wld_set {cs : Cs} {ad : Nat → Nat} {M : Mem} {r : Nat} {i v : Int} {sh : Shp} {E : va_E} (h : shp r = some sh) (hE : E = cel cs ad (mw M r i v) r sh) : (wld cs ad M).set r (ad r, E) = wld cs ad (mw M r i v) := by
  subst hE
  apply List.ext_getElem?
  intro k
  unfold shp at h
  rw [shf_eq] at h
  have hl : r < shL.length := (List.getElem?_eq_some_iff.mp h).1
  by_cases hk : k = r
  · subst hk
    rw [List.getElem?_set_self (by simpa [wld] using hl)]
    simp [wld, List.getElem?_mapIdx, h]
  · rw [List.getElem?_set_ne (fun q => hk q.symm)]
    simp only [wld, List.getElem?_mapIdx]
    cases shL[k]? with
    | none => rfl
    | some sh' => simp [cel_other hk]
/-- numbers between Int and the machine's -/
theorem i32_toInt {x : Int} (h : rng x) : (Int32.ofInt x).toInt = x := by
  unfold rng at h
  rw [Int32.toInt_ofInt]
  exact Int.bmod_eq_of_le_mul_two (by simp [Int32.size]; omega) (by simp [Int32.size]; omega)
theorem i32_of (x : Int32) : Int32.ofInt x.toInt = x := Int32.ofInt_toInt x
theorem rng_of (x : Int32) : rng x.toInt := ⟨Int32.le_toInt x, by have := Int32.toInt_lt x; omega⟩
theorem i32_le {x y : Int} (hx : rng x) (hy : rng y) : Int32.ofInt x ≤ Int32.ofInt y ↔ x ≤ y := by rw [Int32.le_iff_toInt_le, i32_toInt hx, i32_toInt hy]
theorem i32_lt {x y : Int} (hx : rng x) (hy : rng y) : Int32.ofInt x < Int32.ofInt y ↔ x < y := by rw [Int32.lt_iff_toInt_lt, i32_toInt hx, i32_toInt hy]
theorem i32_eq {x y : Int} (hx : rng x) (hy : rng y) : Int32.ofInt x = Int32.ofInt y ↔ x = y := ⟨fun h => by rw [← i32_toInt hx, ← i32_toInt hy, h], fun h => by rw [h]⟩
theorem i32_clamp {i : Int} (h0 : 0 ≤ i) (h1 : i ≤ 2147483647) : (Int32.ofInt i).toNatClampNeg = i.toNat := by
  show (Int32.ofInt i).toInt.toNat = i.toNat
  rw [i32_toInt ⟨by omega, h1⟩]
theorem i32_in {i : Int} {n : Nat} (h0 : 0 ≤ i) (h1 : i < n) (hn : n < 2147483648) : vp_in (Int32.ofInt i) n := by
  rw [vp_in_iff, i32_toInt ⟨by omega, by omega⟩]
  exact ⟨h0, h1⟩
theorem rng_0 : rng 0 := ⟨by decide, by decide⟩
theorem i64_toInt {x : Int} (h0 : -9223372036854775808 ≤ x) (h1 : x ≤ 9223372036854775807) : (Int64.ofInt x).toInt = x := by
  rw [Int64.toInt_ofInt]
  exact Int.bmod_eq_of_le_mul_two (by simp [Int64.size]; omega) (by simp [Int64.size]; omega)
theorem upd_mw {M : Mem} {r : Nat} {i v : Int} (h0 : 0 ≤ i) (h1 : i ≤ 2147483647) : upd (fun j : Nat => Int32.ofInt (M r j)) (Int32.ofInt i).toNatClampNeg (Int32.ofInt v) = fun j : Nat => Int32.ofInt (mw M r i v r j) := by
  funext j
  rw [i32_clamp h0 h1]
  unfold upd mw
  by_cases hj : j = i.toNat
  · have : (j : Int) = i := by omega
    rw [if_pos hj, if_pos ⟨rfl, this⟩]
  · have : ¬ (j : Int) = i := by omega
    rw [if_neg hj, if_neg (fun q => this q.2)]
theorem obj_mw {ad : Nat → Nat} {M : Mem} {r k : Nat} {v : Int} {fs : List (Option Nat)} (hk : fs[k]? = some none) : (fs.mapIdx (fun j o => fvl ad M r j o)).set k (.int (Int32.ofInt v)) = fs.mapIdx (fun j o => fvl ad (mw M r k v) r j o) := by
  apply List.ext_getElem?
  intro j
  have hl : k < fs.length := (List.getElem?_eq_some_iff.mp hk).1
  by_cases hj : j = k
  · subst hj
    rw [List.getElem?_set_self (by simpa using hl)]
    simp [List.getElem?_mapIdx, hk, fvl, mw]
  · rw [List.getElem?_set_ne (fun q => hj q.symm)]
    simp only [List.getElem?_mapIdx]
    cases fs[j]? with
    | none => rfl
    | some o =>
      have : ¬ (j : Int) = (k : Int) := by omega
      cases o <;> simp [fvl, mw, this]
end
section
/-! A method's frame over the pure pictures: what it must know of the machine (gC), what 'from here it comes to Post' says (gV), a call's contract (gOk). -/
/-- the tables' words that last -/
def lw_g : List Cond := lw_tbl.filter goodWord
theorem lw_gm {w : Cond} (i : Nat) (h : lw_tbl[i]? = some w) (hg : goodWord w = true) : w ∈ lw_g := List.mem_filter.mpr ⟨List.mem_of_getElem? h, hg⟩
/-- a row of a method's code: its pc, the next pc, where it jumps to (0: nowhere), the instruction -/
abbrev Row : Type := Nat × Nat × Nat × Instr
/-- a method: name, code, locals, answer's type; its class's field entries (index of the pool, class's number, field's place, 0 int 1 boolean 2 reference, the place once more); its rows -/
abbrev Mt : Type := MethodName × ByteArray × Nat × Option FieldType × List (Nat × Nat × Nat × Nat × Int) × List Row
def jmp (pc tgt : Nat) (ins : Instr) : Bool := match ins with
  | .goto off => decide ((pc : Int) + off = (tgt : Int))
  | .if_icmp _ off => decide ((pc : Int) + off = (tgt : Int))
  | .ifCond _ off => decide ((pc : Int) + off = (tgt : Int))
  | .bipush n => decide ((Int8.ofInt n).toInt32 = Int32.ofInt n)
  | .sipush n => decide ((Int16.ofInt n).toInt32 = Int32.ofInt n)
  | _ => true
def iln (pc nx : Nat) (ins : Instr) : Nat := match ins with
  | .bipush _ => 2
  | .iload _ => 2
  | .istore _ => 2
  | .aload _ => 2
  | .sipush _ => 3
  | .getfield _ => 3
  | .putfield _ => 3
  | .iinc _ _ => 3
  | .goto _ => 3
  | .if_icmp _ _ => 3
  | .ifCond _ _ => 3
  | .invokevirtual _ => 3
  | .invokestatic _ => 3
  | .invokespecial _ => 3
  | .ldc2_w _ => 3
  | .new _ => 3
  | .tableswitch _ _ _ _ => nx - pc
  | _ => 1
abbrev rowOk (cc : ByteArray) (e : Row) : Prop := decode cc e.1 = .ok (e.2.2.2, iln e.1 e.2.1 e.2.2.2) ∧ e.2.1 = e.1 + iln e.1 e.2.1 e.2.2.2 ∧ jmp e.1 e.2.2.1 e.2.2.2 = true
def fldOk (own : String) (f : Nat × Nat × Nat × Nat × Int) : Prop := f.2.2.2.2 = (f.2.2.1 : Int) ∧ ∃ (C : String) (T : u_T) (N : Nat), vwCl[f.2.1]? = some (C, T, N) ∧ f.2.2.1 < N ∧ Cond.fieldLink own f.1 (T f.2.2.1).1 (T f.2.2.1).2.1 (T f.2.2.1).2.2.1 ∈ lw_g ∧ (f.2.2.2.1 = 0 → (T f.2.2.1).2.2.1 = "I" ∧ (T f.2.2.1).2.2.2 = false) ∧ (f.2.2.2.1 = 1 → (T f.2.2.1).2.2.1 = "Z" ∧ (T f.2.2.1).2.2.2 = false)
def mtOk (mt : Mt) : Prop := plainName mt.1.cls = true ∧ (∀ e ∈ mt.2.2.2.2.2, rowOk mt.2.1 e) ∧ (∀ f ∈ mt.2.2.2.2.1, fldOk mt.1.cls f) ∧ mt.2.2.1 ≤ 20 ∧ Cond.code mt.1 mt.2.1 mt.2.2.1 mt.2.2.2.1 ∈ lw_g
def lk (pc : Nat) : List Row → Option (Nat × Nat × Instr)
  | [] => none
  | e :: l => bif Nat.beq e.1 pc then some e.2 else lk pc l
theorem lk_mem {pc : Nat} {x : Nat × Nat × Instr} : ∀ {l : List Row}, lk pc l = some x → (pc, x) ∈ l
  | [], h => by cases h
  | e :: l, h => by
    unfold lk at h
    cases hb : Nat.beq e.1 pc with
    | true =>
      rw [hb] at h
      have h1 : e.2 = x := Option.some.inj h
      have h2 : e.1 = pc := Nat.eq_of_beq_eq_true hb
      rw [← h1, ← h2]
      exact List.mem_cons_self
    | false =>
      rw [hb] at h
      exact List.mem_cons_of_mem _ (lk_mem h)
def fk (ix : Nat) : List (Nat × Nat × Nat × Nat × Int) → Option (Nat × Nat × Nat × Int)
  | [] => none
  | e :: l => bif Nat.beq e.1 ix then some e.2 else fk ix l
theorem fk_mem {ix : Nat} {x : Nat × Nat × Nat × Int} : ∀ {l : List (Nat × Nat × Nat × Nat × Int)}, fk ix l = some x → (ix, x) ∈ l
  | [], h => by cases h
  | e :: l, h => by
    unfold fk at h
    cases hb : Nat.beq e.1 ix with
    | true =>
      rw [hb] at h
      have h1 : e.2 = x := Option.some.inj h
      have h2 : e.1 = ix := Nat.eq_of_beq_eq_true hb
      rw [← h1, ← h2]
      exact List.mem_cons_self
    | false =>
      rw [hb] at h
      exact List.mem_cons_of_mem _ (fk_mem h)
def nth : List PV → Nat → PV
  | [], _ => none
  | v :: _, 0 => v
  | _ :: l, n + 1 => nth l n
/-- a place is set; what goes on sees the list itself -/
def stk {α : Type} : List PV → Nat → PV → (List PV → Option α) → Option α
  | [], _, _, _ => none
  | _ :: l, 0, v, k => k (v :: l)
  | a :: l, n + 1, v, k => stk l n v (fun l' => k (a :: l'))
theorem nth_eq : ∀ (l : List PV) (k : Nat) (v : Int ⊕ (Nat ⊕ Int)), nth l k = some v → l[k]? = some (some v)
  | [], k, v, h => by cases h
  | a :: l, 0, v, h => by simpa [nth] using h
  | a :: l, k + 1, v, h => by simpa using nth_eq l k v h
theorem stk_eq {α : Type} {x : α} : ∀ (l : List PV) (n : Nat) (v : PV) (k : List PV → Option α), stk l n v k = some x → n < l.length ∧ k (l.set n v) = some x
  | [], n, v, k, h => by cases h
  | a :: l, 0, v, k, h => ⟨by simp, h⟩
  | a :: l, n + 1, v, k, h => by
    have := stk_eq l n v (fun l' => k (a :: l')) h
    exact ⟨by simp; exact this.1, by simpa using this.2⟩
/-- the listed locals -/
def lal (ad : Nat → Nat) (lv : List PV) : List (Nat × Value) := (lv.mapIdx (fun k v => (k, v))).filterMap (fun q => match q.2 with
  | some (.inl x) => some (q.1, .int (Int32.ofInt x))
  | some (.inr (.inl r)) => some (q.1, .ref (ad r))
  | _ => none)
theorem lal_mem {ad : Nat → Nat} {lv : List PV} {k : Nat} {w : Value} : (k, w) ∈ lal ad lv ↔ (∃ x, lv[k]? = some (vI x) ∧ w = .int (Int32.ofInt x)) ∨ (∃ r, lv[k]? = some (vR r) ∧ w = .ref (ad r)) := by
  unfold lal
  rw [List.mem_filterMap]
  constructor
  · rintro ⟨⟨j, v⟩, h1, h2⟩
    have h3 : lv[j]? = some v := by
      obtain ⟨i, hi⟩ := List.getElem?_of_mem h1
      simp only [List.getElem?_mapIdx, Option.map_eq_some_iff, Prod.mk.injEq] at hi
      obtain ⟨z, h4, rfl, rfl⟩ := hi
      exact h4
    rcases v with _ | x | r | x
    · simp at h2
    · simp at h2
      obtain ⟨rfl, rfl⟩ := h2
      exact Or.inl ⟨x, h3, rfl⟩
    · simp at h2
      obtain ⟨rfl, rfl⟩ := h2
      exact Or.inr ⟨r, h3, rfl⟩
    · simp at h2
  · rintro (⟨x, h1, rfl⟩ | ⟨r, h1, rfl⟩)
    · refine ⟨(k, vI x), ?_, rfl⟩
      refine List.mem_of_getElem? (i := k) ?_
      simp [List.getElem?_mapIdx, h1]
    · refine ⟨(k, vR r), ?_, rfl⟩
      refine List.mem_of_getElem? (i := k) ?_
      simp [List.getElem?_mapIdx, h1]
def gL (ad : Nat → Nat) (ls : Array Slot) (nL : Nat) (lv : List PV) : Prop := lv.length ≤ nL ∧ lv_has ls nL (lal ad lv)
theorem gL_int {ad : Nat → Nat} {ls : Array Slot} {nL k : Nat} {lv : List PV} {x : Int} (h : gL ad ls nL lv) (hk : nth lv k = vI x) : ls[k]? = some (.val (.int (Int32.ofInt x))) :=
  h.2.2.2 (k, _) (lal_mem.mpr (Or.inl ⟨x, nth_eq _ _ _ hk, rfl⟩))
theorem gL_ref {ad : Nat → Nat} {ls : Array Slot} {nL k : Nat} {lv : List PV} {r : Nat} (h : gL ad ls nL lv) (hk : nth lv k = vR r) : ls[k]? = some (.val (.ref (ad r))) :=
  h.2.2.2 (k, _) (lal_mem.mpr (Or.inr ⟨r, nth_eq _ _ _ hk, rfl⟩))
theorem gL_set {ad : Nat → Nat} {ls ls' : Array Slot} {nL k : Nat} {lv : List PV} {x : Int} (h : gL ad ls nL lv) (hk : k < lv.length) (h' : lv_has ls' nL ((k, Value.int (Int32.ofInt x)) :: (lal ad lv).filter (fun q => !(q.1 == k) && !(q.1 + 1 == k && q.2.category == 2)))) : gL ad ls' nL (lv.set k (vI x)) := by
  refine ⟨by simpa using h.1, h'.1, h'.2.1, ?_⟩
  rintro ⟨j, w⟩ hq
  refine h'.2.2 (j, w) ?_
  by_cases hj : j = k
  · subst hj
    rw [lal_mem, List.getElem?_set_self hk] at hq
    rcases hq with ⟨y, h1, rfl⟩ | ⟨r, h1, rfl⟩
    · cases h1
      exact List.mem_cons_self
    · cases h1
  · rw [lal_mem, List.getElem?_set_ne (fun q => hj q.symm)] at hq
    refine List.mem_cons_of_mem _ (List.mem_filter.mpr ⟨lal_mem.mpr hq, ?_⟩)
    rcases hq with ⟨y, h1, rfl⟩ | ⟨r, h1, rfl⟩ <;> simp [hj, Value.category]
/-- what a value pushes -/
def rp (r : PV) (st : List PV) : List PV := match r with
  | none => st
  | some v => some v :: st
def rv (ad : Nat → Nat) (r : PV) : Option Value := match r with
  | none => none
  | some v => some (cv ad (some v))
/-- the answer is of the method's type -/
def rOk (ret : Option FieldType) (r : PV) : Prop := match ret, r with
  | none, none => True
  | some .int, some (.inl _) => True
  | some .boolean, some (.inl x) => x = 0 ∨ x = 1
  | _, _ => False
def gTys (cs : Cs) : List (ClassId × FieldType) := [(cs.1, .int), (cs.2.1, .boolean), (cs.2.2, .array .int)]
section GG
variable (p : Program) (l : Launch) (e : Env) (R : Room) (s : State) (m : MethodId) (args : Array Value) (below : List Frame) (meth : Method) (c : Code) (cells slots : Nat) (Q : State → Prop) (D : va_G) (ad : Nat → Nat) (A : Nat → Prop) (H0 : Heap) (cs : Cs)
def gC (mt : Mt) (d : Nat) (Post : PV → Mem → Prop) : Prop :=
  p.tables.exec = Jvm.exec ∧ c.code = mt.2.1 ∧ c.maxLocals = mt.2.2.1 ∧ s.vm.findClass mt.1.cls = some m.cls ∧ (∀ w ∈ lw_g, w.before args s = true) ∧ va_K D vwCl (gTys cs) s ∧ (∀ M, va_D A (wld cs ad M)) ∧
  (d ≤ R.frames ∧ 40 * d ≤ R.locals ∧ cells ≤ R.cells ∧ slots ≤ R.slots) ∧ mtOk mt ∧
  (∀ (r : PV) (M : Mem) (pc : Nat) (H : Heap) (locs : List Loc) (ls : Array Slot), Post r M → rOk mt.2.2.2.1 r → va_P D vwCl (wld cs ad M) H → va_S A H0 H locs → decode mt.2.1 pc = .ok (match r with | none => .return_ | some _ => .ireturn, 1) →
    W p l e R s m args below meth c H locs cells slots Q (F0 m pc ls ((rp r []).map (cv ad))))
end GG
def gV (mt : Mt) (d : Nat) (Post : PV → Mem → Prop) (pc : Nat) (lv st : List PV) (M : Mem) : Prop :=
  ∀ (p : Program) (l : Launch) (e : Env) (R : Room) (s : State) (m : MethodId) (args : Array Value) (below : List Frame) (meth : Method) (c : Code) (cells slots : Nat) (Q : State → Prop) (D : va_G) (ad : Nat → Nat) (A : Nat → Prop) (H0 : Heap) (cs : Cs),
    gC p l e R s m args below meth c cells slots Q D ad A H0 cs mt d Post → ∀ (H : Heap) (locs : List Loc) (ls : Array Slot), va_P D vwCl (wld cs ad M) H → va_S A H0 H locs → gL ad ls mt.2.2.1 lv →
      W p l e R s m args below meth c H locs cells slots Q (F0 m pc ls (st.map (cv ad)))
def gW (cs : Cs) (D : va_G) (ad : Nat → Nat) (as : List PV) (M : Mem) (v : Array Value) (U : State) : Prop := v = (as.map (cv ad)).toArray ∧ va_P D vwCl (wld cs ad M) U.heap ∧ va_K D vwCl (gTys cs) U ∧ va_D (fun _ => True) (wld cs ad M)
def gF (ad : Nat → Nat) (q : Nat) : Prop := ∃ k, k < 74 ∧ q = ad k
def gQ (cs : Cs) (D : va_G) (ad : Nat → Nat) (Post : PV → Mem → Prop) (_ : Array Value) (st : State) (oc : Outcome) (t : State) : Prop := (∃ (r : PV) (M : Mem), oc = .returned (rv ad r) ∧ Post r M ∧ va_P D vwCl (wld cs ad M) t.heap) ∧ va_F (gF ad) st t
def gRoom (d : Nat) : Room := { frames := d, cells := 0, slots := 0, locals := 40 * d }
def gOk (mt : Mt) (d : Nat) (as : List PV) (M : Mem) (Post : PV → Mem → Prop) : Prop :=
  ∀ (l : Launch) (cs : Cs) (D : va_G) (ad : Nat → Nat), Met l mt.1 (Cond.code mt.1 mt.2.1 mt.2.2.1 mt.2.2.2.1 :: lw_g) (gRoom d) (gW cs D ad as M) (gQ cs D ad Post) 0 0 (gF ad)
theorem gV_mono {mt : Mt} {d : Nat} {P P' : PV → Mem → Prop} {pc : Nat} {lv st : List PV} {M : Mem} (h : gV mt d P pc lv st M) (hP : ∀ r M, P r M → P' r M) : gV mt d P' pc lv st M := by
  intro p l e R s m args below meth c cells slots Q D ad A H0 cs C
  obtain ⟨c1, c2, c3, c4, c5, c6, c7, c8, c9, c10⟩ := C
  exact h p l e R s m args below meth c cells slots Q D ad A H0 cs ⟨c1, c2, c3, c4, c5, c6, c7, c8, c9, fun r M pc H locs ls q => c10 r M pc H locs ls (hP r M q)⟩
end
section
/-! One instruction: what it does to the pure picture (ps), with what it asks; a branch (pb). Then: the machine does so. -/
theorem cl0 : ∀ w ∈ u_ws RX0 TX0 5, w ∈ lw_g := by decide +kernel
theorem cl1 : ∀ w ∈ u_ws RX1 TX1 10, w ∈ lw_g := by decide +kernel
theorem cl2 : ∀ w ∈ u_ws RX2 TX2 12, w ∈ lw_g := by decide +kernel
theorem cl3 : ∀ w ∈ u_ws RX3 TX3 9, w ∈ lw_g := by decide +kernel
theorem cl4 : ∀ w ∈ u_ws RX4 TX4 12, w ∈ lw_g := by decide +kernel
theorem cl5 : ∀ w ∈ u_ws RX5 TX5 7, w ∈ lw_g := by decide +kernel
theorem cl6 : ∀ w ∈ u_ws RX6 TX6 6, w ∈ lw_g := by decide +kernel
theorem cl7 : ∀ w ∈ u_ws RX7 TX7 36, w ∈ lw_g := by decide +kernel
theorem clOk : ∀ (ci : Nat) (C : String) (T : u_T) (N : Nat), vwCl[ci]? = some (C, T, N) → (∀ w ∈ u_ws C T N, w ∈ lw_g) ∧ ∃ ty0 : Nat → FieldType, (∀ k, k < N → parseFieldDescriptor (T k).2.2.1 = some (ty0 k)) ∧ ∀ a, a < N → ∀ b, b < N → a ≠ b → (T a).2.1 ≠ (T b).2.1
  | 0, _, _, _, h => by cases h; exact ⟨cl0, tyX0, tyX0_ok, nmX0⟩
  | 1, _, _, _, h => by cases h; exact ⟨cl1, tyX1, tyX1_ok, nmX1⟩
  | 2, _, _, _, h => by cases h; exact ⟨cl2, tyX2, tyX2_ok, nmX2⟩
  | 3, _, _, _, h => by cases h; exact ⟨cl3, tyX3, tyX3_ok, nmX3⟩
  | 4, _, _, _, h => by cases h; exact ⟨cl4, tyX4, tyX4_ok, nmX4⟩
  | 5, _, _, _, h => by cases h; exact ⟨cl5, tyX5, tyX5_ok, nmX5⟩
  | 6, _, _, _, h => by cases h; exact ⟨cl6, tyX6, tyX6_ok, nmX6⟩
  | 7, _, _, _, h => by cases h; exact ⟨cl7, tyX7, tyX7_ok, nmX7⟩
  | ci + 8, _, _, _, h => by simp at h
abbrev Cf : Type := Nat × List PV × List PV × Mem
def nO : List (Option Nat) → Nat → Option (Option Nat)
  | [], _ => none
  | a :: _, 0 => some a
  | _ :: l, n + 1 => nO l n
theorem nO_eq : ∀ (l : List (Option Nat)) (k : Nat), nO l k = l[k]?
  | [], k => by simp [nO]
  | a :: l, 0 => by simp [nO]
  | a :: l, k + 1 => by simp [nO, nO_eq l k]
def psGet (mt : Mt) (nx ix : Nat) (lv rest : List PV) (r : Nat) (M : Mem) : Option (Cf × Prop) :=
  match fk ix mt.2.2.2.2.1 with
  | some (ci, k, _, ki) => match shp r with
    | some (.inl (ci', fs)) => bif Nat.beq ci ci' then (match nO fs k with
      | some none => some ((nx, lv, vI (M r ki) :: rest, M), True)
      | some (some q) => some ((nx, lv, vR q :: rest, M), True)
      | none => none) else none
    | _ => none
  | none => none
def psPut (mt : Mt) (nx ix : Nat) (lv rest : List PV) (r : Nat) (v : Int) (M : Mem) : Option (Cf × Prop) :=
  match fk ix mt.2.2.2.2.1 with
  | some (ci, k, tc, ki) => match shp r with
    | some (.inl (ci', fs)) => bif Nat.beq ci ci' then (match nO fs k with
      | some none => match tc with
        | 0 => some ((nx, lv, rest, mw M r ki v), True)
        | 1 => some ((nx, lv, rest, mw M r ki v), v = 0 ∨ v = 1)
        | _ => none
      | _ => none) else none
    | _ => none
  | none => none
def ps (mt : Mt) (pc : Nat) (lv st : List PV) (M : Mem) : Option (Cf × Prop) :=
  match lk pc mt.2.2.2.2.2 with
  | none => none
  | some (nx, tg, ins) => match ins with
    | .iload_n k => match nth lv k with
      | some (.inl x) => some ((nx, lv, vI x :: st, M), True)
      | _ => none
    | .iload k => match nth lv k with
      | some (.inl x) => some ((nx, lv, vI x :: st, M), True)
      | _ => none
    | .aload_n k => match nth lv k with
      | some (.inr (.inl r)) => some ((nx, lv, vR r :: st, M), True)
      | _ => none
    | .aload k => match nth lv k with
      | some (.inr (.inl r)) => some ((nx, lv, vR r :: st, M), True)
      | _ => none
    | .iconst n => some ((nx, lv, vI n :: st, M), True)
    | .bipush n => some ((nx, lv, vI n :: st, M), True)
    | .sipush n => some ((nx, lv, vI n :: st, M), True)
    | .istore_n k => match st with
      | some (.inl x) :: rest => stk lv k (vI x) (fun lv' => some ((nx, lv', rest, M), True))
      | _ => none
    | .istore k => match st with
      | some (.inl x) :: rest => stk lv k (vI x) (fun lv' => some ((nx, lv', rest, M), True))
      | _ => none
    | .iinc k n => match nth lv k with
      | some (.inl x) => stk lv k (vI (x + n)) (fun lv' => some ((nx, lv', st, M), True))
      | _ => none
    | .goto _ => some ((tg, lv, st, M), True)
    | .dup => match st with
      | some (.inl x) :: rest => some ((nx, lv, vI x :: vI x :: rest, M), True)
      | some (.inr (.inl r)) :: rest => some ((nx, lv, vR r :: vR r :: rest, M), True)
      | _ => none
    | .dup2 => match st with
      | some (.inl x) :: some (.inl y) :: rest => some ((nx, lv, vI x :: vI y :: vI x :: vI y :: rest, M), True)
      | some (.inl x) :: some (.inr (.inl r)) :: rest => some ((nx, lv, vI x :: vR r :: vI x :: vR r :: rest, M), True)
      | _ => none
    | .pop => match st with
      | some (.inl _) :: rest => some ((nx, lv, rest, M), True)
      | _ => none
    | .iadd => match st with
      | some (.inl y) :: some (.inl x) :: rest => some ((nx, lv, vI (x + y) :: rest, M), True)
      | _ => none
    | .isub => match st with
      | some (.inl y) :: some (.inl x) :: rest => some ((nx, lv, vI (x - y) :: rest, M), True)
      | _ => none
    | .imul => match st with
      | some (.inl y) :: some (.inl x) :: rest => some ((nx, lv, vI (x * y) :: rest, M), True)
      | _ => none
    | .irem => match st with
      | some (.inl y) :: some (.inl x) :: rest => some ((nx, lv, vI (x % y) :: rest, M), 0 ≤ x ∧ x ≤ 2147483647 ∧ 0 < y ∧ y ≤ 2147483647)
      | _ => none
    | .i2l => match st with
      | some (.inl x) :: rest => some ((nx, lv, vL x :: rest, M), rng x)
      | _ => none
    | .lmul => match st with
      | some (.inr (.inr y)) :: some (.inr (.inr x)) :: rest => some ((nx, lv, vL (x * y) :: rest, M), True)
      | _ => none
    | .ladd => match st with
      | some (.inr (.inr y)) :: some (.inr (.inr x)) :: rest => some ((nx, lv, vL (x + y) :: rest, M), True)
      | _ => none
    | .getfield ix => match st with
      | some (.inr (.inl r)) :: rest => psGet mt nx ix lv rest r M
      | _ => none
    | .putfield ix => match st with
      | some (.inl v) :: some (.inr (.inl r)) :: rest => psPut mt nx ix lv rest r v M
      | _ => none
    | .iaload => match st with
      | some (.inl i) :: some (.inr (.inl r)) :: rest => match shp r with
        | some (.inr (0, n)) => some ((nx, lv, vI (M r i) :: rest, M), 0 ≤ i ∧ i < n)
        | _ => none
      | _ => none
    | .baload => match st with
      | some (.inl i) :: some (.inr (.inl r)) :: rest => match shp r with
        | some (.inr (1, n)) => some ((nx, lv, vI (M r i) :: rest, M), 0 ≤ i ∧ i < n)
        | _ => none
      | _ => none
    | .aaload => match st with
      | some (.inl i) :: some (.inr (.inl r)) :: rest => match shp r with
        | some (.inr (b + 2, n)) => some ((nx, lv, vR (b + 2 + i.toNat) :: rest, M), 0 ≤ i ∧ i < n)
        | _ => none
      | _ => none
    | .iastore => match st with
      | some (.inl v) :: some (.inl i) :: some (.inr (.inl r)) :: rest => match shp r with
        | some (.inr (0, n)) => some ((nx, lv, rest, mw M r i v), 0 ≤ i ∧ i < n)
        | _ => none
      | _ => none
    | .bastore => match st with
      | some (.inl v) :: some (.inl i) :: some (.inr (.inl r)) :: rest => match shp r with
        | some (.inr (1, n)) => some ((nx, lv, rest, mw M r i v), (0 ≤ i ∧ i < n) ∧ (v = 0 ∨ v = 1))
        | _ => none
      | _ => none
    | _ => none
def pbc (op : Jvm.ClassFile.Cond) (x y : Int) : Prop := match op with
  | .eq => x = y
  | .ne => ¬ x = y
  | .lt => x < y
  | .ge => y ≤ x
  | .gt => y < x
  | .le => x ≤ y
def pb (mt : Mt) (pc : Nat) (st : List PV) : Option ((Nat × Nat × List PV) × Prop × Prop) :=
  match lk pc mt.2.2.2.2.2 with
  | none => none
  | some (nx, tg, ins) => match ins with
    | .if_icmp op _ => match st with
      | some (.inl y) :: some (.inl x) :: rest => some ((tg, nx, rest), rng x ∧ rng y, pbc op x y)
      | _ => none
    | .ifCond op _ => match st with
      | some (.inl x) :: rest => some ((tg, nx, rest), rng x, pbc op x 0)
      | _ => none
    | _ => none
end
section
/-! The machine does what ps and pb say. -/
theorem row_of {mt : Mt} (h : mtOk mt) {pc nx tg : Nat} {ins : Instr} (hl : lk pc mt.2.2.2.2.2 = some (nx, tg, ins)) : decode mt.2.1 pc = .ok (ins, iln pc nx ins) ∧ nx = pc + iln pc nx ins ∧ jmp pc tg ins = true := by
  have h1 : rowOk mt.2.1 (pc, nx, tg, ins) := h.2.1 (pc, nx, tg, ins) (lk_mem hl)
  unfold rowOk at h1
  exact h1
section GS
variable {mt : Mt} {d : Nat} {P : PV → Mem → Prop} {pc nx tg : Nat} {lv st rest : List PV} {M : Mem}
theorem gV_iload_n {k : Fin 4} {x : Int} (hl : lk pc mt.2.2.2.2.2 = some (nx, tg, .iload_n k)) (hn : nth lv k = vI x) (kk : gV mt d P nx lv (vI x :: st) M) : gV mt d P pc lv st M := by
  intro p l e R s m args below meth c cells slots Q D ad A H0 cs C H locs ls hP hS hL
  have C' := C
  obtain ⟨c1, c2, c3, c4, c5, c6, c7, c8, c9, c10⟩ := C
  obtain ⟨r1, r2, r3⟩ := row_of c9 hl
  dsimp only [iln] at r1 r2
  subst r2
  exact lv_iload_n c1 c2 r1 rfl (gL_int hL hn) (kk p l e R s m args below meth c cells slots Q D ad A H0 cs C' H locs ls hP hS hL)
theorem gV_iload {k : Nat} {x : Int} (hl : lk pc mt.2.2.2.2.2 = some (nx, tg, .iload k)) (hn : nth lv k = vI x) (kk : gV mt d P nx lv (vI x :: st) M) : gV mt d P pc lv st M := by
  intro p l e R s m args below meth c cells slots Q D ad A H0 cs C H locs ls hP hS hL
  have C' := C
  obtain ⟨c1, c2, c3, c4, c5, c6, c7, c8, c9, c10⟩ := C
  obtain ⟨r1, r2, r3⟩ := row_of c9 hl
  dsimp only [iln] at r1 r2
  subst r2
  exact lv_iload c1 c2 r1 (gL_int hL hn) (kk p l e R s m args below meth c cells slots Q D ad A H0 cs C' H locs ls hP hS hL)
theorem gV_aload_n {k : Fin 4} {r : Nat} (hl : lk pc mt.2.2.2.2.2 = some (nx, tg, .aload_n k)) (hn : nth lv k = vR r) (kk : gV mt d P nx lv (vR r :: st) M) : gV mt d P pc lv st M := by
  intro p l e R s m args below meth c cells slots Q D ad A H0 cs C H locs ls hP hS hL
  have C' := C
  obtain ⟨c1, c2, c3, c4, c5, c6, c7, c8, c9, c10⟩ := C
  obtain ⟨r1, r2, r3⟩ := row_of c9 hl
  dsimp only [iln] at r1 r2
  subst r2
  exact lv_aload_n c1 c2 r1 rfl (gL_ref hL hn) (kk p l e R s m args below meth c cells slots Q D ad A H0 cs C' H locs ls hP hS hL)
theorem gV_aload {k : Nat} {r : Nat} (hl : lk pc mt.2.2.2.2.2 = some (nx, tg, .aload k)) (hn : nth lv k = vR r) (kk : gV mt d P nx lv (vR r :: st) M) : gV mt d P pc lv st M := by
  intro p l e R s m args below meth c cells slots Q D ad A H0 cs C H locs ls hP hS hL
  have C' := C
  obtain ⟨c1, c2, c3, c4, c5, c6, c7, c8, c9, c10⟩ := C
  obtain ⟨r1, r2, r3⟩ := row_of c9 hl
  dsimp only [iln] at r1 r2
  subst r2
  exact lv_aload c1 c2 r1 (gL_ref hL hn) (kk p l e R s m args below meth c cells slots Q D ad A H0 cs C' H locs ls hP hS hL)
theorem gV_iconst {n : Int} (hl : lk pc mt.2.2.2.2.2 = some (nx, tg, .iconst n)) (kk : gV mt d P nx lv (vI n :: st) M) : gV mt d P pc lv st M := by
  intro p l e R s m args below meth c cells slots Q D ad A H0 cs C H locs ls hP hS hL
  have C' := C
  obtain ⟨c1, c2, c3, c4, c5, c6, c7, c8, c9, c10⟩ := C
  obtain ⟨r1, r2, r3⟩ := row_of c9 hl
  dsimp only [iln] at r1 r2
  subst r2
  exact lv_iconst c1 c2 r1 rfl (kk p l e R s m args below meth c cells slots Q D ad A H0 cs C' H locs ls hP hS hL)
theorem gV_bipush {n : Int} (hl : lk pc mt.2.2.2.2.2 = some (nx, tg, .bipush n)) (kk : gV mt d P nx lv (vI n :: st) M) : gV mt d P pc lv st M := by
  intro p l e R s m args below meth c cells slots Q D ad A H0 cs C H locs ls hP hS hL
  have C' := C
  obtain ⟨c1, c2, c3, c4, c5, c6, c7, c8, c9, c10⟩ := C
  obtain ⟨r1, r2, r3⟩ := row_of c9 hl
  dsimp only [iln] at r1 r2
  subst r2
  exact lv_bipush c1 c2 r1 (of_decide_eq_true r3) (kk p l e R s m args below meth c cells slots Q D ad A H0 cs C' H locs ls hP hS hL)
theorem gV_sipush {n : Int} (hl : lk pc mt.2.2.2.2.2 = some (nx, tg, .sipush n)) (kk : gV mt d P nx lv (vI n :: st) M) : gV mt d P pc lv st M := by
  intro p l e R s m args below meth c cells slots Q D ad A H0 cs C H locs ls hP hS hL
  have C' := C
  obtain ⟨c1, c2, c3, c4, c5, c6, c7, c8, c9, c10⟩ := C
  obtain ⟨r1, r2, r3⟩ := row_of c9 hl
  dsimp only [iln] at r1 r2
  subst r2
  exact lv_sipush c1 c2 r1 (of_decide_eq_true r3) (kk p l e R s m args below meth c cells slots Q D ad A H0 cs C' H locs ls hP hS hL)
theorem gV_istore_n {k : Fin 4} {x : Int} (hl : lk pc mt.2.2.2.2.2 = some (nx, tg, .istore_n k)) (hk : (k : Nat) < lv.length) (kk : gV mt d P nx (lv.set k (vI x)) rest M) : gV mt d P pc lv (vI x :: rest) M := by
  intro p l e R s m args below meth c cells slots Q D ad A H0 cs C H locs ls hP hS hL
  have C' := C
  obtain ⟨c1, c2, c3, c4, c5, c6, c7, c8, c9, c10⟩ := C
  obtain ⟨r1, r2, r3⟩ := row_of c9 hl
  dsimp only [iln] at r1 r2
  subst r2
  exact lv_istore_n c1 c2 r1 rfl hL.2 (Nat.lt_of_lt_of_le hk hL.1) rfl (fun ls' h' => kk p l e R s m args below meth c cells slots Q D ad A H0 cs C' H locs ls' hP hS (gL_set hL hk h'))
theorem gV_istore {k : Nat} {x : Int} (hl : lk pc mt.2.2.2.2.2 = some (nx, tg, .istore k)) (hk : (k : Nat) < lv.length) (kk : gV mt d P nx (lv.set k (vI x)) rest M) : gV mt d P pc lv (vI x :: rest) M := by
  intro p l e R s m args below meth c cells slots Q D ad A H0 cs C H locs ls hP hS hL
  have C' := C
  obtain ⟨c1, c2, c3, c4, c5, c6, c7, c8, c9, c10⟩ := C
  obtain ⟨r1, r2, r3⟩ := row_of c9 hl
  dsimp only [iln] at r1 r2
  subst r2
  exact lv_istore c1 c2 r1 hL.2 (Nat.lt_of_lt_of_le hk hL.1) rfl (fun ls' h' => kk p l e R s m args below meth c cells slots Q D ad A H0 cs C' H locs ls' hP hS (gL_set hL hk h'))
theorem gV_iinc {k : Nat} {x n : Int} (hl : lk pc mt.2.2.2.2.2 = some (nx, tg, .iinc k n)) (hn : nth lv k = vI x) (hk : (k : Nat) < lv.length) (kk : gV mt d P nx (lv.set k (vI (x + n))) st M) : gV mt d P pc lv st M := by
  intro p l e R s m args below meth c cells slots Q D ad A H0 cs C H locs ls hP hS hL
  have C' := C
  obtain ⟨c1, c2, c3, c4, c5, c6, c7, c8, c9, c10⟩ := C
  obtain ⟨r1, r2, r3⟩ := row_of c9 hl
  dsimp only [iln] at r1 r2
  subst r2
  obtain ⟨j, hj⟩ := List.getElem?_of_mem (lal_mem (ad := ad).mpr (Or.inl ⟨x, nth_eq _ _ _ hn, rfl⟩))
  exact lv_iinc c1 c2 r1 hL.2 hj (Int32.ofInt_add x n).symm (Nat.lt_of_lt_of_le hk hL.1) rfl (fun ls' h' => kk p l e R s m args below meth c cells slots Q D ad A H0 cs C' H locs ls' hP hS (gL_set hL hk h'))
theorem gV_goto {o : Int} (hl : lk pc mt.2.2.2.2.2 = some (nx, tg, .goto o)) (kk : gV mt d P tg lv st M) : gV mt d P pc lv st M := by
  intro p l e R s m args below meth c cells slots Q D ad A H0 cs C H locs ls hP hS hL
  have C' := C
  obtain ⟨c1, c2, c3, c4, c5, c6, c7, c8, c9, c10⟩ := C
  obtain ⟨r1, r2, r3⟩ := row_of c9 hl
  exact lv_goto c1 c2 r1 (of_decide_eq_true r3) (kk p l e R s m args below meth c cells slots Q D ad A H0 cs C' H locs ls hP hS hL)
theorem cv_cat1 {ad : Nat → Nat} {v : PV} (h : ∀ x, v ≠ vL x) : (cv ad v).category = 1 := by
  rcases v with _ | x | r | x
  · rfl
  · rfl
  · rfl
  · exact absurd rfl (h x)
theorem gV_dup {v : PV} (hl : lk pc mt.2.2.2.2.2 = some (nx, tg, .dup)) (hv : ∀ x, v ≠ vL x) (kk : gV mt d P nx lv (v :: v :: rest) M) : gV mt d P pc lv (v :: rest) M := by
  intro p l e R s m args below meth c cells slots Q D ad A H0 cs C H locs ls hP hS hL
  have C' := C
  obtain ⟨c1, c2, c3, c4, c5, c6, c7, c8, c9, c10⟩ := C
  obtain ⟨r1, r2, r3⟩ := row_of c9 hl
  dsimp only [iln] at r1 r2
  subst r2
  exact lv_dup c1 c2 r1 (cv_cat1 hv) (kk p l e R s m args below meth c cells slots Q D ad A H0 cs C' H locs ls hP hS hL)
theorem gV_dup2 {v w : PV} (hl : lk pc mt.2.2.2.2.2 = some (nx, tg, .dup2)) (hv : ∀ x, v ≠ vL x) (hw : ∀ x, w ≠ vL x) (kk : gV mt d P nx lv (v :: w :: v :: w :: rest) M) : gV mt d P pc lv (v :: w :: rest) M := by
  intro p l e R s m args below meth c cells slots Q D ad A H0 cs C H locs ls hP hS hL
  have C' := C
  obtain ⟨c1, c2, c3, c4, c5, c6, c7, c8, c9, c10⟩ := C
  obtain ⟨r1, r2, r3⟩ := row_of c9 hl
  dsimp only [iln] at r1 r2
  subst r2
  exact lv_dup2_11 c1 c2 r1 (cv_cat1 hv) (cv_cat1 hw) (kk p l e R s m args below meth c cells slots Q D ad A H0 cs C' H locs ls hP hS hL)
theorem gV_pop {v : PV} (hl : lk pc mt.2.2.2.2.2 = some (nx, tg, .pop)) (hv : ∀ x, v ≠ vL x) (kk : gV mt d P nx lv rest M) : gV mt d P pc lv (v :: rest) M := by
  intro p l e R s m args below meth c cells slots Q D ad A H0 cs C H locs ls hP hS hL
  have C' := C
  obtain ⟨c1, c2, c3, c4, c5, c6, c7, c8, c9, c10⟩ := C
  obtain ⟨r1, r2, r3⟩ := row_of c9 hl
  dsimp only [iln] at r1 r2
  subst r2
  exact lv_pop c1 c2 r1 (cv_cat1 hv) (kk p l e R s m args below meth c cells slots Q D ad A H0 cs C' H locs ls hP hS hL)
theorem gV_iadd {x y : Int} (hl : lk pc mt.2.2.2.2.2 = some (nx, tg, .iadd)) (kk : gV mt d P nx lv (vI (x + y) :: rest) M) : gV mt d P pc lv (vI y :: vI x :: rest) M := by
  intro p l e R s m args below meth c cells slots Q D ad A H0 cs C H locs ls hP hS hL
  have C' := C
  obtain ⟨c1, c2, c3, c4, c5, c6, c7, c8, c9, c10⟩ := C
  obtain ⟨r1, r2, r3⟩ := row_of c9 hl
  dsimp only [iln] at r1 r2
  subst r2
  have k1 := kk p l e R s m args below meth c cells slots Q D ad A H0 cs C' H locs ls hP hS hL
  have e1 : cv ad (vI (x + y)) = .int (Int32.ofInt x + Int32.ofInt y) := by simp [cv, Int32.ofInt_add]
  simp only [List.map_cons, e1] at k1
  exact lv_iadd c1 c2 r1 k1
theorem gV_isub {x y : Int} (hl : lk pc mt.2.2.2.2.2 = some (nx, tg, .isub)) (kk : gV mt d P nx lv (vI (x - y) :: rest) M) : gV mt d P pc lv (vI y :: vI x :: rest) M := by
  intro p l e R s m args below meth c cells slots Q D ad A H0 cs C H locs ls hP hS hL
  have C' := C
  obtain ⟨c1, c2, c3, c4, c5, c6, c7, c8, c9, c10⟩ := C
  obtain ⟨r1, r2, r3⟩ := row_of c9 hl
  dsimp only [iln] at r1 r2
  subst r2
  have k1 := kk p l e R s m args below meth c cells slots Q D ad A H0 cs C' H locs ls hP hS hL
  have e1 : cv ad (vI (x - y)) = .int (Int32.ofInt x - Int32.ofInt y) := by simp [cv, Int32.ofInt_sub]
  simp only [List.map_cons, e1] at k1
  exact lv_isub c1 c2 r1 k1
theorem gV_imul {x y : Int} (hl : lk pc mt.2.2.2.2.2 = some (nx, tg, .imul)) (kk : gV mt d P nx lv (vI (x * y) :: rest) M) : gV mt d P pc lv (vI y :: vI x :: rest) M := by
  intro p l e R s m args below meth c cells slots Q D ad A H0 cs C H locs ls hP hS hL
  have C' := C
  obtain ⟨c1, c2, c3, c4, c5, c6, c7, c8, c9, c10⟩ := C
  obtain ⟨r1, r2, r3⟩ := row_of c9 hl
  dsimp only [iln] at r1 r2
  subst r2
  have k1 := kk p l e R s m args below meth c cells slots Q D ad A H0 cs C' H locs ls hP hS hL
  have e1 : cv ad (vI (x * y)) = .int (Int32.ofInt x * Int32.ofInt y) := by simp [cv, Int32.ofInt_mul]
  simp only [List.map_cons, e1] at k1
  exact lv_imul c1 c2 r1 k1
theorem i32_nI {x : Int} (h : 0 ≤ x) : Int32.ofInt x = nI x.toNat := by
  unfold nI
  rw [← Int32.ofInt_eq_ofNat, Int.toNat_of_nonneg h]
theorem gV_irem {x y : Int} (hl : lk pc mt.2.2.2.2.2 = some (nx, tg, .irem)) (hc : 0 ≤ x ∧ x ≤ 2147483647 ∧ 0 < y ∧ y ≤ 2147483647) (kk : gV mt d P nx lv (vI (x % y) :: rest) M) : gV mt d P pc lv (vI y :: vI x :: rest) M := by
  intro p l e R s m args below meth c cells slots Q D ad A H0 cs C H locs ls hP hS hL
  have C' := C
  obtain ⟨c1, c2, c3, c4, c5, c6, c7, c8, c9, c10⟩ := C
  obtain ⟨r1, r2, r3⟩ := row_of c9 hl
  dsimp only [iln] at r1 r2
  subst r2
  obtain ⟨h1, h2, h3, h4⟩ := hc
  have k1 := kk p l e R s m args below meth c cells slots Q D ad A H0 cs C' H locs ls hP hS hL
  have hne : ¬ Int32.ofInt y = 0 := fun q => by
    have := (i32_eq (x := y) (y := 0) ⟨by omega, by omega⟩ rng_0).mp q
    omega
  have e1 : cv ad (vI (x % y)) = .int (Int32.ofInt x - Int32.ofInt x / Int32.ofInt y * Int32.ofInt y) := by
    have hm : 0 ≤ x % y := Int.emod_nonneg x (by omega)
    simp only [cv]
    rw [i32_nI h1, i32_nI (x := y) (by omega), pk_rem (by omega) (by omega) (by omega), i32_nI hm]
    congr 2
    have : ((x.toNat % y.toNat : Nat) : Int) = x % y := by rw [Int.natCast_emod, Int.toNat_of_nonneg h1, Int.toNat_of_nonneg (by omega)]
    omega
  simp only [List.map_cons, e1] at k1
  exact lv_irem c1 c2 r1 hne k1
theorem gV_i2l {x : Int} (hl : lk pc mt.2.2.2.2.2 = some (nx, tg, .i2l)) (hx : rng x) (kk : gV mt d P nx lv (vL x :: rest) M) : gV mt d P pc lv (vI x :: rest) M := by
  intro p l e R s m args below meth c cells slots Q D ad A H0 cs C H locs ls hP hS hL
  have C' := C
  obtain ⟨c1, c2, c3, c4, c5, c6, c7, c8, c9, c10⟩ := C
  obtain ⟨r1, r2, r3⟩ := row_of c9 hl
  dsimp only [iln] at r1 r2
  subst r2
  refine lv_i2l c1 c2 r1 (v := Int64.ofInt x) ?_ (kk p l e R s m args below meth c cells slots Q D ad A H0 cs C' H locs ls hP hS hL)
  apply Int64.toInt_inj.mp
  rw [Int32.toInt_toInt64, i32_toInt hx, i64_toInt (by have := hx.1; omega) (by have := hx.2; omega)]
theorem gV_lmul {x y : Int} (hl : lk pc mt.2.2.2.2.2 = some (nx, tg, .lmul)) (kk : gV mt d P nx lv (vL (x * y) :: rest) M) : gV mt d P pc lv (vL y :: vL x :: rest) M := by
  intro p l e R s m args below meth c cells slots Q D ad A H0 cs C H locs ls hP hS hL
  have C' := C
  obtain ⟨c1, c2, c3, c4, c5, c6, c7, c8, c9, c10⟩ := C
  obtain ⟨r1, r2, r3⟩ := row_of c9 hl
  dsimp only [iln] at r1 r2
  subst r2
  have k1 := kk p l e R s m args below meth c cells slots Q D ad A H0 cs C' H locs ls hP hS hL
  have e1 : cv ad (vL (x * y)) = .long (Int64.ofInt x * Int64.ofInt y) := by simp [cv, Int64.ofInt_mul]
  simp only [List.map_cons, e1] at k1
  exact lv_lmul c1 c2 r1 k1
theorem gV_ladd {x y : Int} (hl : lk pc mt.2.2.2.2.2 = some (nx, tg, .ladd)) (kk : gV mt d P nx lv (vL (x + y) :: rest) M) : gV mt d P pc lv (vL y :: vL x :: rest) M := by
  intro p l e R s m args below meth c cells slots Q D ad A H0 cs C H locs ls hP hS hL
  have C' := C
  obtain ⟨c1, c2, c3, c4, c5, c6, c7, c8, c9, c10⟩ := C
  obtain ⟨r1, r2, r3⟩ := row_of c9 hl
  dsimp only [iln] at r1 r2
  subst r2
  have k1 := kk p l e R s m args below meth c cells slots Q D ad A H0 cs C' H locs ls hP hS hL
  have e1 : cv ad (vL (x + y)) = .long (Int64.ofInt x + Int64.ofInt y) := by simp [cv, Int64.ofInt_add]
  simp only [List.map_cons, e1] at k1
  exact lv_ladd c1 c2 r1 k1
end GS
end
section
/-! Fields and arrays. -/
theorem nar_b {v : Int} (h : v = 0 ∨ v = 1) : narrow .boolean (.int (Int32.ofInt v)) = .int (Int32.ofInt v) := by
  rcases h with rfl | rfl <;> decide +kernel
theorem narb_b {v : Int} (h : v = 0 ∨ v = 1) : vp_nar .boolean (Int32.ofInt v) = Int32.ofInt v := by
  rcases h with rfl | rfl <;> decide +kernel
theorem fit_b {v : Int} (h : v = 0 ∨ v = 1) : fits .boolean (.int (Int32.ofInt v)) = true := by
  rcases h with rfl | rfl <;> decide +kernel
theorem pfd_I : parseFieldDescriptor "I" = some .int := by decide +kernel
theorem pfd_Z : parseFieldDescriptor "Z" = some .boolean := by decide +kernel
section GA
variable {mt : Mt} {d : Nat} {P : PV → Mem → Prop} {pc nx tg : Nat} {lv st rest : List PV} {M : Mem}
theorem gV_get {ix ci k tc r : Nat} {ki : Int} {fs : List (Option Nat)} {o : Option Nat} {v : PV} (hl : lk pc mt.2.2.2.2.2 = some (nx, tg, .getfield ix)) (hf : fk ix mt.2.2.2.2.1 = some (ci, k, tc, ki)) (hs : shp r = some (.inl (ci, fs))) (ho : fs[k]? = some o)
    (hv : ki = (k : Int) → ∀ ad, cv ad v = fvl ad M r k o) (kk : gV mt d P nx lv (v :: rest) M) : gV mt d P pc lv (vR r :: rest) M := by
  intro p l e R s m args below meth c cells slots Q D ad A H0 cs C H locs ls hP hS hL
  have C' := C
  obtain ⟨c1, c2, c3, c4, c5, c6, c7, c8, c9, c10⟩ := C
  obtain ⟨r1, r2, r3⟩ := row_of c9 hl
  dsimp only [iln] at r1 r2
  subst r2
  obtain ⟨f0, CC, TT, NN, f1, f2, f3, -⟩ := c9.2.2.1 _ (fk_mem hf)
  refine va_get c1 c2 c5 (clOk _ _ _ _ f1).1 c4 c6 hP r (wld_get hs) f1 k f2 (c5 _ f3) (fun _ h => h) (v := cv ad v) ?_ r1 (kk p l e R s m args below meth c cells slots Q D ad A H0 cs C' H locs ls hP hS hL)
  rw [List.getElem?_mapIdx, ho, hv f0 ad]
  rfl
theorem gV_put {ix ci k tc r : Nat} {ki : Int} {fs : List (Option Nat)} {v : Int} (hl : lk pc mt.2.2.2.2.2 = some (nx, tg, .putfield ix)) (hf : fk ix mt.2.2.2.2.1 = some (ci, k, tc, ki)) (hs : shp r = some (.inl (ci, fs))) (ho : fs[k]? = some none)
    (hv : tc = 0 ∨ (tc = 1 ∧ (v = 0 ∨ v = 1))) (kk : gV mt d P nx lv rest (mw M r ki v)) : gV mt d P pc lv (vI v :: vR r :: rest) M := by
  intro p l e R s m args below meth c cells slots Q D ad A H0 cs C H locs ls hP hS hL
  have C' := C
  obtain ⟨c1, c2, c3, c4, c5, c6, c7, c8, c9, c10⟩ := C
  obtain ⟨r1, r2, r3⟩ := row_of c9 hl
  dsimp only [iln] at r1 r2
  subst r2
  obtain ⟨f0, CC, TT, NN, f1, f2, f3, f4, f5⟩ := c9.2.2.1 _ (fk_mem hf)
  have f0 : ki = (k : Int) := f0
  subst f0
  obtain ⟨g1, ty0, g2, g3⟩ := clOk _ _ _ _ f1
  have key : ∃ ty, (TT k).2.2.2 = false ∧ parseFieldDescriptor (TT k).2.2.1 = some ty ∧ narrow ty (.int (Int32.ofInt v)) = .int (Int32.ofInt v) ∧ fits ty (.int (Int32.ofInt v)) = true := by
    rcases hv with h | ⟨h, h9⟩
    · obtain ⟨q1, q2⟩ := f4 h
      exact ⟨.int, q2, by rw [q1]; exact pfd_I, rfl, rfl⟩
    · obtain ⟨q1, q2⟩ := f5 h
      exact ⟨.boolean, q2, by rw [q1]; exact pfd_Z, nar_b h9, fit_b h9⟩
  obtain ⟨ty, t1, t2, t3, t4⟩ := key
  have hlen : k < fs.length := (List.getElem?_eq_some_iff.mp ho).1
  refine va_put c1 c2 c5 g1 ty0 g2 g3 c4 c6 hP (c7 M) hS r (wld_get hs) f1 k f2 (c5 _ f3) (fun _ h => h) t1 t2 t3 t4 (by simpa using hlen) r1 (fun H1 locs1 h1 h2 h3 => ?_)
  have h1 : va_P D vwCl (wld cs ad (mw M r k v)) H1 := by
    rw [← wld_set hs rfl]
    simp only [cel]
    rw [← obj_mw ho]
    exact h1
  exact kk p l e R s m args below meth c cells slots Q D ad A H0 cs C' H1 locs1 ls h1 h3 hL
theorem gV_iald {r n : Nat} {i : Int} (hl : lk pc mt.2.2.2.2.2 = some (nx, tg, .iaload)) (hs : shp r = some (.inr (0, n))) (hn : n < 2147483648) (hi : 0 ≤ i ∧ i < n) (kk : gV mt d P nx lv (vI (M r i) :: rest) M) : gV mt d P pc lv (vI i :: vR r :: rest) M := by
  intro p l e R s m args below meth c cells slots Q D ad A H0 cs C H locs ls hP hS hL
  have C' := C
  obtain ⟨c1, c2, c3, c4, c5, c6, c7, c8, c9, c10⟩ := C
  obtain ⟨r1, r2, r3⟩ := row_of c9 hl
  dsimp only [iln] at r1 r2
  subst r2
  have k1 := kk p l e R s m args below meth c cells slots Q D ad A H0 cs C' H locs ls hP hS hL
  have e1 : cv ad (vI (M r i)) = .int ((fun j : Nat => Int32.ofInt (M r j)) (Int32.ofInt i).toNatClampNeg) := by
    simp only [cv]
    rw [i32_clamp hi.1 (by omega), Int.toNat_of_nonneg hi.1]
  simp only [List.map_cons, e1] at k1
  exact va_iald c1 c2 c6 hP r 0 (wld_get hs) rfl (i32_in hi.1 hi.2 hn) r1 k1
theorem gV_zald {r n : Nat} {i : Int} (hl : lk pc mt.2.2.2.2.2 = some (nx, tg, .baload)) (hs : shp r = some (.inr (1, n))) (hn : n < 2147483648) (hi : 0 ≤ i ∧ i < n) (kk : gV mt d P nx lv (vI (M r i) :: rest) M) : gV mt d P pc lv (vI i :: vR r :: rest) M := by
  intro p l e R s m args below meth c cells slots Q D ad A H0 cs C H locs ls hP hS hL
  have C' := C
  obtain ⟨c1, c2, c3, c4, c5, c6, c7, c8, c9, c10⟩ := C
  obtain ⟨r1, r2, r3⟩ := row_of c9 hl
  dsimp only [iln] at r1 r2
  subst r2
  have k1 := kk p l e R s m args below meth c cells slots Q D ad A H0 cs C' H locs ls hP hS hL
  have e1 : cv ad (vI (M r i)) = .int ((fun j : Nat => Int32.ofInt (M r j)) (Int32.ofInt i).toNatClampNeg) := by
    simp only [cv]
    rw [i32_clamp hi.1 (by omega), Int.toNat_of_nonneg hi.1]
  simp only [List.map_cons, e1] at k1
  exact va_zald c1 c2 c6 hP r 1 (wld_get hs) rfl (i32_in hi.1 hi.2 hn) r1 k1
theorem gV_aald {r n b : Nat} {i : Int} (hl : lk pc mt.2.2.2.2.2 = some (nx, tg, .aaload)) (hs : shp r = some (.inr (b + 2, n))) (hn : n < 2147483648) (hi : 0 ≤ i ∧ i < n) (kk : gV mt d P nx lv (vR (b + 2 + i.toNat) :: rest) M) : gV mt d P pc lv (vI i :: vR r :: rest) M := by
  intro p l e R s m args below meth c cells slots Q D ad A H0 cs C H locs ls hP hS hL
  have C' := C
  obtain ⟨c1, c2, c3, c4, c5, c6, c7, c8, c9, c10⟩ := C
  obtain ⟨r1, r2, r3⟩ := row_of c9 hl
  dsimp only [iln] at r1 r2
  subst r2
  have k1 := kk p l e R s m args below meth c cells slots Q D ad A H0 cs C' H locs ls hP hS hL
  have hin := i32_in hi.1 hi.2 hn
  have hlt : (Int32.ofInt i).toNatClampNeg < n := Nat.not_le.mp fun q => hin (Or.inr q)
  have e1 : cv ad (vR (b + 2 + i.toNat)) = va_rf ((fun j : Nat => some (ad (b + 2 + j))) (Int32.ofInt i).toNatClampNeg) := by
    simp only [cv]
    rw [i32_clamp hi.1 (by omega)]
    rfl
  simp only [List.map_cons, e1] at k1
  exact W.aald (ty := .array .int) c1 c2 (hP r _ (wld_get hs)) ((c6.2 2 _ rfl).1 n (fun j => va_rf (some (ad (b + 2 + j))))) rfl (fun q => by cases q) (by show ¬ (_ ∨ (arrV _ _ _).slots.size ≤ _); rw [arrV_size]; exact hin) (by show (arrV _ _ _).slots[_]? = _; rw [arrV_read _ _ hlt]) rfl rfl r1 k1
theorem gV_iast {r n : Nat} {i v : Int} (hl : lk pc mt.2.2.2.2.2 = some (nx, tg, .iastore)) (hs : shp r = some (.inr (0, n))) (hn : n < 2147483648) (hi : 0 ≤ i ∧ i < n) (kk : gV mt d P nx lv rest (mw M r i v)) : gV mt d P pc lv (vI v :: vI i :: vR r :: rest) M := by
  intro p l e R s m args below meth c cells slots Q D ad A H0 cs C H locs ls hP hS hL
  have C' := C
  obtain ⟨c1, c2, c3, c4, c5, c6, c7, c8, c9, c10⟩ := C
  obtain ⟨r1, r2, r3⟩ := row_of c9 hl
  dsimp only [iln] at r1 r2
  subst r2
  refine va_iast c1 c2 c6 hP (c7 M) hS r 0 (wld_get hs) rfl (i32_in hi.1 hi.2 hn) r1 (fun H1 locs1 h1 h2 h3 => ?_)
  rw [upd_mw hi.1 (by omega)] at h1
  have h1 : va_P D vwCl (wld cs ad (mw M r i v)) H1 := by
    rw [← wld_set hs rfl]
    exact h1
  exact kk p l e R s m args below meth c cells slots Q D ad A H0 cs C' H1 locs1 ls h1 h3 hL
theorem gV_zast {r n : Nat} {i v : Int} (hl : lk pc mt.2.2.2.2.2 = some (nx, tg, .bastore)) (hs : shp r = some (.inr (1, n))) (hn : n < 2147483648) (hi : (0 ≤ i ∧ i < n) ∧ (v = 0 ∨ v = 1)) (kk : gV mt d P nx lv rest (mw M r i v)) : gV mt d P pc lv (vI v :: vI i :: vR r :: rest) M := by
  intro p l e R s m args below meth c cells slots Q D ad A H0 cs C H locs ls hP hS hL
  have C' := C
  obtain ⟨c1, c2, c3, c4, c5, c6, c7, c8, c9, c10⟩ := C
  obtain ⟨r1, r2, r3⟩ := row_of c9 hl
  dsimp only [iln] at r1 r2
  subst r2
  refine va_zast c1 c2 c6 hP (c7 M) hS r 1 (wld_get hs) rfl (i32_in hi.1.1 hi.1.2 hn) r1 (fun H1 locs1 h1 h2 h3 => ?_)
  rw [narb_b hi.2, upd_mw hi.1.1 (by omega)] at h1
  have h1 : va_P D vwCl (wld cs ad (mw M r i v)) H1 := by
    rw [← wld_set hs rfl]
    exact h1
  exact kk p l e R s m args below meth c cells slots Q D ad A H0 cs C' H1 locs1 ls h1 h3 hL
end GA
end
section
/-! ps is what the machine does; branches; answers; calls; from a frame to a contract. -/
theorem shp_small {r k n : Nat} (h : shp r = some (.inr (k, n))) : n < 2147483648 := by
  unfold shp at h
  rw [shf_eq] at h
  have key : ∀ sh ∈ shL, ∀ k n, sh = .inr (k, n) → n < 2147483648 := by
    intro sh hsh
    have h1 : shL.all (fun sh => match sh with | .inr (_, n) => decide (n < 2147483648) | _ => true) = true := by decide +kernel
    have h2 := List.all_eq_true.mp h1 sh hsh
    rintro k n rfl
    exact of_decide_eq_true h2
  exact key _ (List.mem_of_getElem? h) k n rfl
section GT
variable {mt : Mt} {d : Nat} {P : PV → Mem → Prop} {pc nx tg : Nat} {lv st rest : List PV} {M : Mem}
set_option maxHeartbeats 4000000 in
theorem gV_st {cf : Cf} {φ : Prop} (h : ps mt pc lv st M = some (cf, φ)) (hφ : φ) (kk : gV mt d P cf.1 cf.2.1 cf.2.2.1 cf.2.2.2) : gV mt d P pc lv st M := by
  unfold ps at h
  cases hl : lk pc mt.2.2.2.2.2 with
  | none => rw [hl] at h; cases h
  | some x =>
    obtain ⟨nx, tg, ins⟩ := x
    rw [hl] at h
    dsimp only at h
    cases ins
    case iload_n k =>
      dsimp only at h
      split at h
      next x hn => cases h; exact gV_iload_n hl hn kk
      next => cases h
    case iload k =>
      dsimp only at h
      split at h
      next x hn => cases h; exact gV_iload hl hn kk
      next => cases h
    case aload_n k =>
      dsimp only at h
      split at h
      next x hn => cases h; exact gV_aload_n hl hn kk
      next => cases h
    case aload k =>
      dsimp only at h
      split at h
      next x hn => cases h; exact gV_aload hl hn kk
      next => cases h
    case iconst n => cases h; exact gV_iconst hl kk
    case bipush n => cases h; exact gV_bipush hl kk
    case sipush n => cases h; exact gV_sipush hl kk
    case istore_n k =>
      dsimp only at h
      split at h
      next x rest =>
        obtain ⟨h1, h2⟩ := stk_eq _ _ _ _ h
        cases h2
        exact gV_istore_n hl h1 kk
      next => cases h
    case istore k =>
      dsimp only at h
      split at h
      next x rest =>
        obtain ⟨h1, h2⟩ := stk_eq _ _ _ _ h
        cases h2
        exact gV_istore hl h1 kk
      next => cases h
    case iinc k n =>
      dsimp only at h
      split at h
      next x hn =>
        obtain ⟨h1, h2⟩ := stk_eq _ _ _ _ h
        cases h2
        exact gV_iinc hl hn h1 kk
      next => cases h
    case goto o => cases h; exact gV_goto hl kk
    case dup =>
      dsimp only at h
      split at h
      next x rest => cases h; exact gV_dup hl (fun y q => by cases q) kk
      next r rest => cases h; exact gV_dup hl (fun y q => by cases q) kk
      next => cases h
    case dup2 =>
      dsimp only at h
      split at h
      next x y rest => cases h; exact gV_dup2 hl (fun y q => by cases q) (fun y q => by cases q) kk
      next x r rest => cases h; exact gV_dup2 hl (fun y q => by cases q) (fun y q => by cases q) kk
      next => cases h
    case pop =>
      dsimp only at h
      split at h
      next x rest => cases h; exact gV_pop hl (fun y q => by cases q) kk
      next => cases h
    case iadd =>
      dsimp only at h
      split at h
      next x y rest => cases h; exact gV_iadd hl kk
      next => cases h
    case isub =>
      dsimp only at h
      split at h
      next x y rest => cases h; exact gV_isub hl kk
      next => cases h
    case imul =>
      dsimp only at h
      split at h
      next x y rest => cases h; exact gV_imul hl kk
      next => cases h
    case irem =>
      dsimp only at h
      split at h
      next x y rest => cases h; exact gV_irem hl hφ kk
      next => cases h
    case i2l =>
      dsimp only at h
      split at h
      next x rest => cases h; exact gV_i2l hl hφ kk
      next => cases h
    case lmul =>
      dsimp only at h
      split at h
      next x y rest => cases h; exact gV_lmul hl kk
      next => cases h
    case ladd =>
      dsimp only at h
      split at h
      next x y rest => cases h; exact gV_ladd hl kk
      next => cases h
    case getfield ix =>
      dsimp only at h
      split at h
      next r rest =>
        unfold psGet at h
        split at h
        next ci k tc ki hf =>
          split at h
          next ci' fs hs =>
            cases hb : Nat.beq ci ci' with
            | false => rw [hb] at h; cases h
            | true =>
              rw [hb] at h
              have he : ci = ci' := Nat.eq_of_beq_eq_true hb
              subst he
              dsimp only [cond_true] at h
              split at h
              next ho => cases h; exact gV_get hl hf hs (by rw [← nO_eq]; exact ho) (fun hk ad => by rw [hk]; rfl) kk
              next q ho => cases h; exact gV_get hl hf hs (by rw [← nO_eq]; exact ho) (fun hk ad => rfl) kk
              next => cases h
          next => cases h
        next => cases h
      next => cases h
    case putfield ix =>
      dsimp only at h
      split at h
      next v r rest =>
        unfold psPut at h
        split at h
        next ci k tc ki hf =>
          split at h
          next ci' fs hs =>
            cases hb : Nat.beq ci ci' with
            | false => rw [hb] at h; cases h
            | true =>
              rw [hb] at h
              have he : ci = ci' := Nat.eq_of_beq_eq_true hb
              subst he
              dsimp only [cond_true] at h
              split at h
              next ho =>
                split at h
                next => cases h; exact gV_put hl hf hs (by rw [← nO_eq]; exact ho) (Or.inl rfl) kk
                next => cases h; exact gV_put hl hf hs (by rw [← nO_eq]; exact ho) (Or.inr ⟨rfl, hφ⟩) kk
                next => cases h
              next => cases h
          next => cases h
        next => cases h
      next => cases h
    case iaload =>
      dsimp only at h
      split at h
      next i r rest =>
        split at h
        next n hs => cases h; exact gV_iald hl hs (shp_small hs) hφ kk
        next => cases h
      next => cases h
    case baload =>
      dsimp only at h
      split at h
      next i r rest =>
        split at h
        next n hs => cases h; exact gV_zald hl hs (shp_small hs) hφ kk
        next => cases h
      next => cases h
    case aaload =>
      dsimp only at h
      split at h
      next i r rest =>
        split at h
        next b n hs => cases h; exact gV_aald hl hs (shp_small hs) hφ kk
        next => cases h
      next => cases h
    case iastore =>
      dsimp only at h
      split at h
      next v i r rest =>
        split at h
        next n hs => cases h; exact gV_iast hl hs (shp_small hs) hφ kk
        next => cases h
      next => cases h
    case bastore =>
      dsimp only at h
      split at h
      next v i r rest =>
        split at h
        next n hs => cases h; exact gV_zast hl hs (shp_small hs) hφ kk
        next => cases h
      next => cases h
    all_goals cases h
end GT
end
section
/-! Branches, answers, calls, and from a frame to a contract. -/
section GB
variable {mt : Mt} {d : Nat} {P : PV → Mem → Prop} {pc nx tg : Nat} {lv st rest : List PV} {M : Mem}
theorem icmp_ok {op : Jvm.ClassFile.Cond} {o : Int} {x y : Int} (hl : lk pc mt.2.2.2.2.2 = some (nx, tg, .if_icmp op o)) (hx : rng x) (hy : rng y) (kt : pbc op x y → gV mt d P tg lv rest M) (kf : ¬ pbc op x y → gV mt d P nx lv rest M) : gV mt d P pc lv (vI y :: vI x :: rest) M := by
  intro p l e R s m args below meth c cells slots Q D ad A H0 cs C H locs ls hP hS hL
  have C' := C
  obtain ⟨c1, c2, c3, c4, c5, c6, c7, c8, c9, c10⟩ := C
  obtain ⟨r1, r2, r3⟩ := row_of c9 hl
  dsimp only [iln] at r1 r2
  subst r2
  have r4 := of_decide_eq_true r3
  have kt' := fun q => kt q p l e R s m args below meth c cells slots Q D ad A H0 cs C' H locs ls hP hS hL
  have kf' := fun q => kf q p l e R s m args below meth c cells slots Q D ad A H0 cs C' H locs ls hP hS hL
  cases op
  case eq => exact lv_icmp_eq c1 c2 r1 r4 (fun q => kt' ((i32_eq hx hy).mp q)) (fun q => kf' (fun z => q ((i32_eq hx hy).mpr z)))
  case ne => exact lv_icmp_ne c1 c2 r1 r4 (fun q => kt' (fun z => q ((i32_eq hx hy).mpr z))) (fun q => kf' (fun z => z ((i32_eq hx hy).mp q)))
  case lt => exact lv_icmp_lt c1 c2 r1 r4 (fun q => kt' ((i32_lt hx hy).mp q)) (fun q => kf' (fun z => q ((i32_lt hx hy).mpr z)))
  case ge => exact lv_icmp_ge c1 c2 r1 r4 (fun q => kt' ((i32_le hy hx).mp q)) (fun q => kf' (fun z => q ((i32_le hy hx).mpr z)))
  case gt => exact lv_icmp_gt c1 c2 r1 r4 (fun q => kt' ((i32_lt hy hx).mp q)) (fun q => kf' (fun z => q ((i32_lt hy hx).mpr z)))
  case le => exact lv_icmp_le c1 c2 r1 r4 (fun q => kt' ((i32_le hx hy).mp q)) (fun q => kf' (fun z => q ((i32_le hx hy).mpr z)))
theorem ifc_ok {op : Jvm.ClassFile.Cond} {o : Int} {x : Int} (hl : lk pc mt.2.2.2.2.2 = some (nx, tg, .ifCond op o)) (hx : rng x) (kt : pbc op x 0 → gV mt d P tg lv rest M) (kf : ¬ pbc op x 0 → gV mt d P nx lv rest M) : gV mt d P pc lv (vI x :: rest) M := by
  intro p l e R s m args below meth c cells slots Q D ad A H0 cs C H locs ls hP hS hL
  have C' := C
  obtain ⟨c1, c2, c3, c4, c5, c6, c7, c8, c9, c10⟩ := C
  obtain ⟨r1, r2, r3⟩ := row_of c9 hl
  dsimp only [iln] at r1 r2
  subst r2
  have r4 := of_decide_eq_true r3
  have hy := rng_0
  have kt' := fun q => kt q p l e R s m args below meth c cells slots Q D ad A H0 cs C' H locs ls hP hS hL
  have kf' := fun q => kf q p l e R s m args below meth c cells slots Q D ad A H0 cs C' H locs ls hP hS hL
  cases op
  case eq => exact lv_if_eq c1 c2 r1 r4 (fun q => kt' ((i32_eq hx hy).mp q)) (fun q => kf' (fun z => q ((i32_eq hx hy).mpr z)))
  case ne => exact lv_if_ne c1 c2 r1 r4 (fun q => kt' (fun z => q ((i32_eq hx hy).mpr z))) (fun q => kf' (fun z => z ((i32_eq hx hy).mp q)))
  case lt => exact lv_if_lt c1 c2 r1 r4 (fun q => kt' ((i32_lt hx hy).mp q)) (fun q => kf' (fun z => q ((i32_lt hx hy).mpr z)))
  case ge => exact lv_if_ge c1 c2 r1 r4 (fun q => kt' ((i32_le hy hx).mp q)) (fun q => kf' (fun z => q ((i32_le hy hx).mpr z)))
  case gt => exact lv_if_gt c1 c2 r1 r4 (fun q => kt' ((i32_lt hy hx).mp q)) (fun q => kf' (fun z => q ((i32_lt hy hx).mpr z)))
  case le => exact lv_if_le c1 c2 r1 r4 (fun q => kt' ((i32_le hx hy).mp q)) (fun q => kf' (fun z => q ((i32_le hx hy).mpr z)))
theorem gV_if {z : Nat × Nat × List PV} {φ cnd : Prop} (h : pb mt pc st = some (z, φ, cnd)) (hφ : φ) (kt : cnd → gV mt d P z.1 lv z.2.2 M) (kf : ¬ cnd → gV mt d P z.2.1 lv z.2.2 M) : gV mt d P pc lv st M := by
  unfold pb at h
  cases hl : lk pc mt.2.2.2.2.2 with
  | none => rw [hl] at h; cases h
  | some x =>
    obtain ⟨nx, tg, ins⟩ := x
    rw [hl] at h
    dsimp only at h
    cases ins
    case if_icmp op o =>
      dsimp only at h
      split at h
      next y x rest => cases h; exact icmp_ok hl hφ.1 hφ.2 kt kf
      next => cases h
    case ifCond op o =>
      dsimp only at h
      split at h
      next x rest => cases h; exact ifc_ok hl hφ kt kf
      next => cases h
    all_goals cases h
theorem gV_ret {x : Int} (hl : lk pc mt.2.2.2.2.2 = some (nx, tg, .ireturn)) (ho : rOk mt.2.2.2.1 (vI x)) (hp : P (vI x) M) : gV mt d P pc lv [vI x] M := by
  intro p l e R s m args below meth c cells slots Q D ad A H0 cs C H locs ls hP hS hL
  obtain ⟨c1, c2, c3, c4, c5, c6, c7, c8, c9, c10⟩ := C
  obtain ⟨r1, r2, r3⟩ := row_of c9 hl
  exact c10 (vI x) M pc H locs ls hp ho hP hS r1
theorem gV_retv (hl : lk pc mt.2.2.2.2.2 = some (nx, tg, .return_)) (ho : rOk mt.2.2.2.1 none) (hp : P none M) : gV mt d P pc lv [] M := by
  intro p l e R s m args below meth c cells slots Q D ad A H0 cs C H locs ls hP hS hL
  obtain ⟨c1, c2, c3, c4, c5, c6, c7, c8, c9, c10⟩ := C
  obtain ⟨r1, r2, r3⟩ := row_of c9 hl
  exact c10 none M pc H locs ls hp ho hP hS r1
end GB
/-- the locals at the entry -/
def pad (as : List PV) (n : Nat) : List PV := as ++ List.replicate (n - as.length) none
theorem pad_args (ad : Nat → Nat) : ∀ (as : List PV) (k : Nat), (∀ v ∈ as, (∃ x, v = vI x) ∨ ∃ r, v = vR r) → lv_args k (as.map (cv ad)) = (as.mapIdx (fun j v => (k + j, cv ad v)))
  | [], k, _ => rfl
  | a :: as, k, h => by
    have h1 := pad_args ad as (k + 1) (fun v hv => h v (List.mem_cons_of_mem _ hv))
    have h2 : (cv ad a).category = 1 := by
      rcases h a List.mem_cons_self with ⟨x, rfl⟩ | ⟨r, rfl⟩ <;> rfl
    simp only [List.map_cons, lv_args, List.mapIdx_cons, h2]
    rw [if_neg (by decide), h1]
    simp only [Nat.add_zero, List.cons.injEq, true_and]
    apply List.mapIdx_eq_mapIdx_iff.mpr
    intro i hi
    simp only [Prod.mk.injEq, and_true]
    omega
theorem pad_sl (ad : Nat → Nat) : ∀ (as : List PV), (∀ v ∈ as, (∃ x, v = vI x) ∨ ∃ r, v = vR r) → (lg_sl (as.map (cv ad))).length = as.length
  | [], _ => rfl
  | a :: as, h => by
    have h1 := pad_sl ad as (fun v hv => h v (List.mem_cons_of_mem _ hv))
    simp only [lg_sl, List.map_cons, List.flatMap_cons, List.length_append] at h1 ⊢
    rw [h1]
    rcases h a List.mem_cons_self with ⟨x, rfl⟩ | ⟨r, rfl⟩ <;> simp [cv, Value.category, Nat.add_comm]

theorem wld_D {cs : Cs} {ad : Nat → Nat} {A A' : Nat → Prop} {M M' : Mem} (h : va_D A (wld cs ad M)) (hA : ∀ k, k < 74 → A' (ad k)) : va_D A' (wld cs ad M') := by
  have key : ∀ (i : Nat) (q : Nat × va_E), (wld cs ad M')[i]? = some q → ∃ q0, (wld cs ad M)[i]? = some q0 ∧ q0.1 = q.1 ∧ q.1 = ad i ∧ i < 74 := by
    intro i q hq
    have hl : i < (wld cs ad M').length := (List.getElem?_eq_some_iff.mp hq).1
    rw [wld_len] at hl
    obtain ⟨sh, h1, rfl⟩ := wld_at hq
    exact ⟨_, wld_get h1, rfl, rfl, hl⟩
  refine ⟨fun i j a b hi hj hab => ?_, fun k q hq => ?_⟩
  · obtain ⟨a0, h1, h2, -⟩ := key i a hi
    obtain ⟨b0, h3, h4, -⟩ := key j b hj
    exact h.1 i j a0 b0 h1 h3 (by rw [h2, h4, hab])
  · obtain ⟨q0, h1, h2, h3, h4⟩ := key k q hq
    rw [h3]
    exact hA k h4
theorem wld_A {cs : Cs} {ad : Nat → Nat} {A : Nat → Prop} {M : Mem} (h : va_D A (wld cs ad M)) (k : Nat) (hk : k < 74) : A (ad k) := by
  have hl : k < shL.length := hk
  have h1 : shp k = some (shL[k]'hl) := by unfold shp; rw [shf_eq]; exact List.getElem?_eq_getElem hl
  exact h.2 k _ (wld_get h1)
theorem tbl_good {w : Cond} (h : w ∈ lw_g) : (w.onTables && w.keeps) = true ∨ ∃ ty, w = .arrayClass ty := good_of_word (List.mem_filter.mp h).2
set_option maxHeartbeats 1000000 in
theorem gOk_of {mt : Mt} {d : Nat} {as : List PV} {M : Mem} {P : PV → Mem → Prop} (hm : mtOk mt) (ha : ∀ v ∈ as, (∃ x, v = vI x) ∨ ∃ r, v = vR r) (hlen : as.length ≤ mt.2.2.1) (h : gV mt d P 0 (pad as mt.2.2.1) [] M) : gOk mt d as M P := by
  intro l cs D ad
  refine Met.ofW (cc := mt.2.1) (maxL := mt.2.2.1) (ret := mt.2.2.2.1) hm.1 rfl ?_
  intro p e s m args below meth c s₁ B hml hv
  obtain ⟨rfl, hP, hK, hD0⟩ := hv
  have hx := B.exec
  have hb := B.bytes
  have hr := B.returns
  have hts := atoms_spec (ws := Cond.code mt.1 mt.2.1 mt.2.2.1 mt.2.2.2.1 :: lw_g) B.pre
  have hown : s.vm.findClass mt.1.cls = some m.cls := findClass_of_methodNamed B.named
  have hlocks := B.notSynchronized
  have hS : va_S (gF ad) s.heap s.heap [] := va_S.rf
  have hD : ∀ M', va_D (gF ad) (wld cs ad M') := fun M' => wld_D hD0 (fun k hk => ⟨k, hk, rfl⟩)
  have hl := lv_entry (as.map (cv ad)) (n := mt.2.2.1) (by rw [pad_sl ad as ha]; exact hlen)
  rw [lg_entry_eq]
  generalize (lg_sl (as.map (cv ad)) ++ List.replicate (mt.2.2.1 - (lg_sl (as.map (cv ad))).length) Slot.unset).toArray = ls at hl ⊢
  have hL : gL ad ls mt.2.2.1 (pad as mt.2.2.1) := by
    refine ⟨by simp [pad]; omega, hl.1, hl.2.1, ?_⟩
    rintro ⟨k, w⟩ hq
    refine hl.2.2 (k, w) ?_
    rw [pad_args ad as 0 ha]
    have key : ∀ v : Int ⊕ (Nat ⊕ Int), (pad as mt.2.2.1)[k]? = some (some v) → as[k]? = some (some v) := by
      intro v hv
      unfold pad at hv
      by_cases hk : k < as.length
      · rwa [List.getElem?_append_left hk] at hv
      · rw [List.getElem?_append_right (by omega)] at hv
        have := List.mem_of_getElem? hv
        have := List.eq_of_mem_replicate this
        cases this
    rw [lal_mem] at hq
    rcases hq with ⟨x, h1, rfl⟩ | ⟨r, h1, rfl⟩
    · refine List.mem_of_getElem? (i := k) ?_
      rw [List.getElem?_mapIdx, key _ h1]
      simp [cv]
    · refine List.mem_of_getElem? (i := k) ?_
      rw [List.getElem?_mapIdx, key _ h1]
      simp [cv]
  refine h p l e _ s m _ below meth c 0 0 _ D ad (gF ad) s.heap cs ⟨hx, hb, hml, hown, fun w hw => hts w (List.mem_cons_of_mem _ hw), hK, hD, ⟨Nat.le_refl _, Nat.le_refl _, Nat.le_refl _, Nat.le_refl _⟩, hm, ?_⟩ s.heap [] ls hP hS hL
  intro r M' pc H locs ls' hp ho hP' hS' hdg
  cases hret : mt.2.2.2.1 with
  | none =>
    rw [hret] at ho hr
    rcases r with _ | v
    · exact W.vret hx hb hr (fun t ht hW => ⟨⟨none, M', rfl, hp, by rw [ht]; exact hP'⟩, hS'.F ht⟩) hS'.2.2 hdg
    · exact ho.elim
  | some ty =>
    rw [hret] at ho hr
    rcases r with _ | x | r | x
    · cases ty <;> exact ho.elim
    · have hn : narrow ty (.int (Int32.ofInt x)) = .int (Int32.ofInt x) := by
        cases ty <;> first | rfl | exact ho.elim | exact nar_b ho
      exact W.zret hx hb hr hn (fun t ht hW => ⟨⟨vI x, M', rfl, hp, by rw [ht]; exact hP'⟩, hS'.F ht⟩) hS'.2.2 hdg
    · cases ty <;> exact ho.elim
    · cases ty <;> exact ho.elim
theorem run_go {p : Program} {l : Launch} {e : Env} {R : Room} {s : State} {m : MethodId} {args : Array Value} {below : List Frame} {meth : Method} {c : Code} {cells slots : Nat} {Q : State → Prop} {D : va_G} {ad : Nat → Nat} {A : Nat → Prop} {H0 H : Heap} {cs : Cs} {locs : List Loc} {pc : Nat} {ls : Array Slot} {st0 rest : List Value} {P : PV → Mem → Prop} {a : Array Value}
    (hr : va_Run p l e R s m args below meth c H locs cells slots 0 0 (F0 m pc ls st0) rest (gQ cs D ad P a) (gF ad)) (hS : va_S A H0 H locs) (hA : ∀ k, k < 74 → A (ad k))
    (kk : ∀ (r : PV) (M : Mem) (H1 : Heap) (locs1 : List Loc), P r M → va_P D vwCl (wld cs ad M) H1 → va_S A H0 H1 locs1 → W p l e R s m args below meth c H1 locs1 cells slots Q (F0 m (pc + 3) ls ((rv ad r).toList ++ rest))) : W p l e R s m args below meth c H locs cells slots Q (F0 m pc ls st0) := by
  have hf : ∀ q, gF ad q → A q := fun q ⟨k, hk, hq⟩ => hq ▸ hA k hk
  intro T hT X
  obtain ⟨v, st₀, t, T', L, h0, X', hL, e1, e2, ⟨⟨r, M, hv, hp, hb⟩, hz, hk⟩, st⟩ := hr T hT X
  cases hv
  rw [h0] at hz hk
  obtain ⟨t2, a1, b1⟩ := kk r M T'.heap (locs ++ L) hp (by rw [e1]; exact hb)
    ⟨Nat.le_trans hS.1 (by rw [e1]; exact hz), fun q h1 h2 => by rw [e1, hk q (Nat.lt_of_lt_of_le h1 hS.1) (fun z => h2 (hf q z))]; exact hS.2.1 q h1 h2, fun q hq => by
      rcases List.mem_append.mp hq with h | h
      · exact hS.2.2 q h
      · exact hf _ (hL q h)⟩ T' rfl X'
  exact ⟨t2, st t2 a1, b1⟩
/-- what the tables must say of a call: of an instance's method, of a static one -/
def siteV (own : String) (ix : Nat) (y : MethodName) (n : Nat) : Prop := Cond.methodLink own ix y ∈ lw_g ∧ Cond.instanceMethod y ∈ lw_g ∧ Cond.selects y.cls y y ∈ lw_g ∧ Cond.initialized y.cls ∈ lw_g ∧ (y.cls ≠ "java/lang/invoke/MethodHandle" ∧ y.cls ≠ "java/lang/invoke/VarHandle" ∧ (parseMethodDescriptor y.desc).map (fun d => d.parameters.length) = some n)
def siteS (own : String) (ix : Nat) (y : MethodName) (n : Nat) : Prop := Cond.methodLink own ix y ∈ lw_g ∧ Cond.static y ∈ lw_g ∧ Cond.initialized y.cls ∈ lw_g ∧ (y.cls ≠ "java/lang/invoke/MethodHandle" ∧ y.cls ≠ "java/lang/invoke/VarHandle" ∧ (parseMethodDescriptor y.desc).map (fun d => d.parameters.length) = some n)
theorem gW_blind {cs : Cs} {D : va_G} {ad : Nat → Nat} {as : List PV} {M : Mem} : FrameBlind (gW cs D ad as M) := fun a U g mk q => by
  obtain ⟨q0, qP, qK, qD⟩ := q
  exact ⟨q0, qP, va_K.moved (u := U) (U := U.calling g mk a) (Vm.Alike.refl U.vm) qK, qD⟩
def noL (l : List PV) : Bool := match l with
  | [] => true
  | some (.inr (.inr _)) :: _ => false
  | _ :: l => noL l
theorem noL_sum (ad : Nat → Nat) : ∀ (l : List PV), noL l = true → ((l.map (cv ad)).map fun v => v.category).sum = l.length
  | [], _ => rfl
  | none :: l, h => by
    have h1 := noL_sum ad l h
    simp only [List.map_cons, List.sum_cons, List.length_cons, h1]
    exact Nat.add_comm _ _
  | some (.inl x) :: l, h => by
    have h1 := noL_sum ad l h
    simp only [List.map_cons, List.sum_cons, List.length_cons, h1]
    exact Nat.add_comm _ _
  | some (.inr (.inl r)) :: l, h => by
    have h1 := noL_sum ad l h
    simp only [List.map_cons, List.sum_cons, List.length_cons, h1]
    exact Nat.add_comm _ _
  | some (.inr (.inr x)) :: l, h => by cases h
theorem rp_map (ad : Nat → Nat) (r : PV) (rest : List PV) : (rv ad r).toList ++ rest.map (cv ad) = (rp r rest).map (cv ad) := by
  cases r <;> rfl
section GCL
variable {mt mt' : Mt} {d : Nat} {P P' : PV → Mem → Prop} {pc nx tg ix n : Nat} {lv st as rest : List PV} {M : Mem}
theorem gV_callV {r ci : Nat} {fs : List (Option Nat)} {T : u_T} {N : Nat} (hl : lk pc mt.2.2.2.2.2 = some (nx, tg, .invokevirtual ix)) (hm : mtOk mt') (hs : siteV mt.1.cls ix mt'.1 n) (hn : as.length = n) (hst : st = as.reverse ++ vR r :: rest) (hr : shp r = some (.inl (ci, fs))) (hc : vwCl[ci]? = some (mt'.1.cls, T, N)) (hz : (noL rest && Nat.ble rest.length 8) = true)
    (hok : gOk mt' d (vR r :: as) M P') (kk : ∀ (r : PV) (M : Mem), P' r M → gV mt (d + 1) P nx lv (rp r rest) M) : gV mt (d + 1) P pc lv st M := by
  intro p l e R s m args below meth c cells slots Q D ad A H0 cs C H locs ls hP hS hL
  have C' := C
  obtain ⟨c1, c2, c3, c4, c5, c6, c7, c8, c9, c10⟩ := C
  obtain ⟨r1, r2, r3⟩ := row_of c9 hl
  dsimp only [iln] at r1 r2
  subst r2
  obtain ⟨s1, s2, s3, s4, s5⟩ := hs
  rw [Bool.and_eq_true] at hz
  have hz2 : rest.length ≤ 8 := Nat.le_of_ble_eq_true hz.2
  have hG : GoodIn lw_g (wsV mt.1.cls ix mt'.1.cls mt'.1 (Cond.code mt'.1 mt'.2.1 mt'.2.2.1 mt'.2.2.2.1 :: lw_g)) := by
    intro w hw
    have hw2 : w ∈ lw_g := by
      unfold wsV at hw
      simp only [List.cons_append, List.nil_append, List.mem_cons] at hw
      rcases hw with rfl | rfl | rfl | rfl | rfl | hw
      · exact s1
      · exact s2
      · exact s3
      · exact s4
      · exact hm.2.2.2.2
      · exact hw
    exact ⟨hw2, tbl_good hw2⟩
  have hm20 := hm.2.2.2.1
  have cw : CallW R s args mt.1.cls mt'.1.cls ix mt'.1 mt'.2.1 mt'.2.2.1 mt'.2.2.2.1 (Cond.code mt'.1 mt'.2.1 mt'.2.2.1 mt'.2.2.2.1 :: lw_g) (gRoom d) 0 0 n :=
    cwV n c5 hG rfl rfl rfl ⟨rfl, s5⟩ ⟨by show d + 1 ≤ R.frames; exact c8.1, by show 8 + (mt'.2.2.1 + 11) + 40 * d ≤ R.locals; have := c8.2.1; omega⟩
  refine run_go (va_runV (As := as.map (cv ad)) (rest := rest.map (cv ad)) ⟨c1, c2, c3, c4, c5⟩ (hok l cs D ad) cw ⟨gW_blind, va_recv c6 hP hc (wld_get hr), fun U hU hW => ⟨by rw [List.map_cons]; rfl, by rw [hU]; exact hP, va_K.moved hW.alike c6, wld_D (c7 M) (fun _ _ => trivial)⟩⟩ rfl (by rw [List.length_map]; exact hn) hL.2.1 (by rw [hst]; simp [cv]) (lv_room (by rw [noL_sum ad rest hz.1]; exact hz2)) r1 ⟨c8.2.2.1, c8.2.2.2⟩) hS (wld_A (c7 M)) (fun r M1 H1 locs1 h1 h2 h3 => ?_)
  rw [rp_map]
  exact kk r M1 h1 p l e R s m args below meth c cells slots Q D ad A H0 cs C' H1 locs1 ls h2 h3 hL
theorem gV_callS (hl : lk pc mt.2.2.2.2.2 = some (nx, tg, .invokestatic ix)) (hm : mtOk mt') (hs : siteS mt.1.cls ix mt'.1 n) (hn : as.length = n) (hst : st = as.reverse ++ rest) (hz : (noL rest && Nat.ble rest.length 8) = true)
    (hok : gOk mt' d as M P') (kk : ∀ (r : PV) (M : Mem), P' r M → gV mt (d + 1) P nx lv (rp r rest) M) : gV mt (d + 1) P pc lv st M := by
  intro p l e R s m args below meth c cells slots Q D ad A H0 cs C H locs ls hP hS hL
  have C' := C
  obtain ⟨c1, c2, c3, c4, c5, c6, c7, c8, c9, c10⟩ := C
  obtain ⟨r1, r2, r3⟩ := row_of c9 hl
  dsimp only [iln] at r1 r2
  subst r2
  obtain ⟨s1, s2, s4, s5⟩ := hs
  rw [Bool.and_eq_true] at hz
  have hz2 : rest.length ≤ 8 := Nat.le_of_ble_eq_true hz.2
  have hG : GoodIn lw_g (va_wsS mt.1.cls ix mt'.1 (Cond.code mt'.1 mt'.2.1 mt'.2.2.1 mt'.2.2.2.1 :: lw_g)) := by
    intro w hw
    have hw2 : w ∈ lw_g := by
      unfold va_wsS at hw
      simp only [List.cons_append, List.nil_append, List.mem_cons] at hw
      rcases hw with rfl | rfl | rfl | rfl | hw
      · exact s1
      · exact s2
      · exact s4
      · exact hm.2.2.2.2
      · exact hw
    exact ⟨hw2, tbl_good hw2⟩
  have hm20 := hm.2.2.2.1
  have cw := va_cwS (R := R) (rm := gRoom d) (mc := 0) (ms := 0) (bytes := mt'.2.1) (maxL := mt'.2.2.1) (ret := mt'.2.2.2.1) n c5 hG rfl rfl rfl s5 ⟨by show d + 1 ≤ R.frames; exact c8.1, by show 8 + (mt'.2.2.1 + 11) + 40 * d ≤ R.locals; have := c8.2.1; omega⟩
  refine run_go (va_runS (As := as.map (cv ad)) (rest := rest.map (cv ad)) ⟨c1, c2, c3, c4, c5⟩ (hok l cs D ad) cw ⟨gW_blind, fun U hU hW => ⟨rfl, by rw [hU]; exact hP, va_K.moved hW.alike c6, wld_D (c7 M) (fun _ _ => trivial)⟩⟩ rfl (by rw [List.length_map]; exact hn) hL.2.1 (by rw [hst]; simp) (lv_room (by rw [noL_sum ad rest hz.1]; exact hz2)) r1 ⟨c8.2.2.1, c8.2.2.2⟩) hS (wld_A (c7 M)) (fun r M1 H1 locs1 h1 h2 h3 => ?_)
  rw [rp_map]
  exact kk r M1 h1 p l e R s m args below meth c cells slots Q D ad A H0 cs C' H1 locs1 ls h2 h3 hL
end GCL
end
section
/-! words of the library calls: by program -/
theorem wd_min : Cond.methodLink RX5 121 ⟨"java/lang/Math", "min", "(II)I"⟩ ∈ lw_g ∧ Cond.static ⟨"java/lang/Math", "min", "(II)I"⟩ ∈ lw_g ∧ Cond.initialized "java/lang/Math" ∈ lw_g ∧ Cond.code ⟨"java/lang/Math", "min", "(II)I"⟩ prog_10_method_69_code 2 (some .int) ∈ lw_g := ⟨lw_gm 470 (by decide +kernel) rfl, lw_gm 471 (by decide +kernel) rfl, lw_gm 49 (by decide +kernel) rfl, lw_gm 472 (by decide +kernel) rfl⟩
theorem wd_copy : Cond.methodLink RX4 101 ⟨"java/lang/System", "arraycopy", "(Ljava/lang/Object;ILjava/lang/Object;II)V"⟩ ∈ lw_g ∧ Cond.native ⟨"java/lang/System", "arraycopy", "(Ljava/lang/Object;ILjava/lang/Object;II)V"⟩ ∈ lw_g ∧ Cond.static ⟨"java/lang/System", "arraycopy", "(Ljava/lang/Object;ILjava/lang/Object;II)V"⟩ ∈ lw_g ∧ Cond.initialized "java/lang/System" ∈ lw_g := ⟨lw_gm 621 (by decide +kernel) rfl, lw_gm 623 (by decide +kernel) rfl, lw_gm 622 (by decide +kernel) rfl, lw_gm 50 (by decide +kernel) rfl⟩
theorem wd_long : Cond.constantLong RX7 191 100 ∈ lw_g := lw_gm 921 (by decide +kernel) rfl
end
section
/-! Math.min, System.arraycopy, a long constant, lcmp, a switch. -/
section GX
variable {mt : Mt} {d : Nat} {P : PV → Mem → Prop} {pc nx tg : Nat} {lv st rest : List PV} {M : Mem}
theorem gV_min {x y : Int} (hl : lk pc mt.2.2.2.2.2 = some (nx, tg, .invokestatic 121)) (ho : mt.1.cls = RX5) (hx : rng x) (hy : rng y) (hz : (noL rest && Nat.ble rest.length 8) = true) (kk : gV mt (d + 1) P nx lv (vI (if y < x then y else x) :: rest) M) : gV mt (d + 1) P pc lv (vI y :: vI x :: rest) M := by
  intro p l e R s m args below meth c cells slots Q D ad A H0 cs C H locs ls hP hS hL
  have C' := C
  obtain ⟨c1, c2, c3, c4, c5, c6, c7, c8, c9, c10⟩ := C
  obtain ⟨r1, r2, r3⟩ := row_of c9 hl
  dsimp only [iln] at r1 r2
  subst r2
  obtain ⟨w1, w2, w3, w4⟩ := wd_min
  rw [Bool.and_eq_true] at hz
  have hz2 : rest.length ≤ 8 := Nat.le_of_ble_eq_true hz.2
  have k1 := kk p l e R s m args below meth c cells slots Q D ad A H0 cs C' H locs ls hP hS hL
  have e1 : cv ad (vI (if y < x then y else x)) = .int (if Int32.ofInt y < Int32.ofInt x then Int32.ofInt y else Int32.ofInt x) := by
    simp only [cv, i32_lt hy hx]
    split <;> rfl
  simp only [List.map_cons, e1] at k1
  rw [ho] at c4
  exact va_mmin c1 c2 (c3.trans hL.2.1.symm) c4 (c5 _ w1) (c5 _ w2) (c5 _ w3) (c5 _ w4) (by have := c8.1; omega) (by rw [noL_sum ad rest hz.1]; have := c8.2.1; omega) c8.2.2.1 c8.2.2.2 r1 k1
def mcp (M : Mem) (a b : Nat) (n : Int) : Mem := fun r i => if r = b ∧ 0 ≤ i ∧ i < n then M a i else M r i
theorem wld_set2 {cs : Cs} {ad : Nat → Nat} {M M' : Mem} {r : Nat} {sh : Shp} {E : va_E} (h : shp r = some sh) (hM : ∀ r', r' ≠ r → M' r' = M r') (hE : E = cel cs ad M' r sh) : (wld cs ad M).set r (ad r, E) = wld cs ad M' := by
  subst hE
  apply List.ext_getElem?
  intro k
  unfold shp at h
  rw [shf_eq] at h
  have hl : r < shL.length := (List.getElem?_eq_some_iff.mp h).1
  by_cases hk : k = r
  · subst hk
    rw [List.getElem?_set_self (by simpa [wld] using hl)]
    simp [wld, List.getElem?_mapIdx, h]
  · rw [List.getElem?_set_ne (fun q => hk q.symm)]
    simp only [wld, List.getElem?_mapIdx]
    cases shL[k]? with
    | none => rfl
    | some sh' =>
      have e := hM k hk
      simp only [Option.map_some, Option.some.injEq, Prod.mk.injEq, true_and]
      rcases sh' with ⟨ci, fs⟩ | ⟨q, n⟩
      · simp [cel, fvl, e]
      · match q with
        | 0 => simp [cel, e]
        | 1 => simp [cel, e]
        | b + 2 => rfl
theorem gV_copy {a b n : Nat} (hl : lk pc mt.2.2.2.2.2 = some (nx, tg, .invokestatic 101)) (ho : mt.1.cls = RX4) (ha : shp a = some (.inr (0, n))) (hb : shp b = some (.inr (0, n))) (hn : n < 2147483648) (kk : gV mt (d + 1) P nx lv [] (mcp M a b n)) : gV mt (d + 1) P pc lv [vI n, vI 0, vR b, vI 0, vR a] M := by
  intro p l e R s m args below meth c cells slots Q D ad A H0 cs C H locs ls hP hS hL
  have C' := C
  obtain ⟨c1, c2, c3, c4, c5, c6, c7, c8, c9, c10⟩ := C
  obtain ⟨r1, r2, r3⟩ := row_of c9 hl
  dsimp only [iln] at r1 r2
  subst r2
  obtain ⟨w1, w2, w3, w4⟩ := wd_copy
  rw [ho] at c4
  have hnn : (Int32.ofInt (n : Int)).toNatClampNeg = n := by rw [i32_clamp (by omega) (by omega)]; omega
  have h00 : (Int32.ofInt 0).toNatClampNeg = 0 := by decide
  have hlt : ∀ z : Int, rng z → 0 ≤ z → ¬ Int32.ofInt z < 0 := fun z h1 h2 q => by
    have := (i32_lt (x := z) (y := 0) h1 rng_0).mp q
    omega
  refine va_copyi c1 c2 (c3.trans hL.2.1.symm) c4 (c5 _ w1) (c5 _ w2) (c5 _ w3) (c5 _ w4) c6 hP (c7 M) hS a b 0 0 (wld_get ha) (wld_get hb) rfl rfl rfl (hlt 0 rng_0 (by omega)) (hlt 0 rng_0 (by omega)) (hlt n ⟨by omega, by omega⟩ (by omega)) (by rw [h00, hnn]; omega) (by rw [h00, hnn]; omega) (fun i hi => rfl) (by have := c8.1; omega) ?_ r1 (fun H1 locs1 h1 h2 h3 => ?_)
  · have : nativeFrameWords "java/lang/System" "arraycopy" 5 + 11 ≤ 40 := by decide +kernel
    have := c8.2.1
    simp only [List.map_nil, List.sum_nil]
    omega
  · have h1 : va_P D vwCl (wld cs ad (mcp M a b n)) H1 := by
      rw [← wld_set2 (M := M) hb (fun r' h => by funext i; simp [mcp, h]) rfl]
      rw [h00, hnn] at h1
      have e2 : va_cpy (fun j : Nat => Int32.ofInt (M a j)) (fun j : Nat => Int32.ofInt (M b j)) 0 0 n = fun j : Nat => Int32.ofInt (mcp M a b n b j) := by
        funext j
        unfold va_cpy mcp
        by_cases hj : j < n
        · rw [if_pos ⟨by omega, by omega⟩, if_pos ⟨rfl, by omega, by omega⟩]
          simp
        · rw [if_neg (by omega), if_neg (by omega)]
      rw [e2] at h1
      exact h1
    exact kk p l e R s m args below meth c cells slots Q D ad A H0 cs C' H1 locs1 ls h1 h3 hL
theorem gV_ldc (hl : lk pc mt.2.2.2.2.2 = some (nx, tg, .ldc2_w 191)) (ho : mt.1.cls = RX7) (kk : gV mt d P nx lv (vL 100 :: st) M) : gV mt d P pc lv st M := by
  intro p l e R s m args below meth c cells slots Q D ad A H0 cs C H locs ls hP hS hL
  have C' := C
  obtain ⟨c1, c2, c3, c4, c5, c6, c7, c8, c9, c10⟩ := C
  obtain ⟨r1, r2, r3⟩ := row_of c9 hl
  dsimp only [iln] at r1 r2
  subst r2
  rw [ho] at c4
  exact lv_ldc2 c1 c2 c4 (c5 _ wd_long) r1 (kk p l e R s m args below meth c cells slots Q D ad A H0 cs C' H locs ls hP hS hL)
def rng64 (x : Int) : Prop := -9223372036854775808 ≤ x ∧ x ≤ 9223372036854775807
theorem gV_lcmp {x y : Int} (hl : lk pc mt.2.2.2.2.2 = some (nx, tg, .lcmp)) (hx : rng64 x) (hy : rng64 y) (kk : gV mt d P nx lv (vI (if y < x then 1 else if x = y then 0 else -1) :: rest) M) : gV mt d P pc lv (vL y :: vL x :: rest) M := by
  intro p l e R s m args below meth c cells slots Q D ad A H0 cs C H locs ls hP hS hL
  have C' := C
  obtain ⟨c1, c2, c3, c4, c5, c6, c7, c8, c9, c10⟩ := C
  obtain ⟨r1, r2, r3⟩ := row_of c9 hl
  dsimp only [iln] at r1 r2
  subst r2
  have k1 := kk p l e R s m args below meth c cells slots Q D ad A H0 cs C' H locs ls hP hS hL
  have e1 : cv ad (vI (if y < x then 1 else if x = y then 0 else -1)) = .int (lg_cmp (Int64.ofInt x) (Int64.ofInt y)) := by
    have q1 := i64_toInt hx.1 hx.2
    have q2 := i64_toInt hy.1 hy.2
    simp only [cv, lg_cmp, gt_iff_lt, Int64.lt_iff_toInt_lt, ← Int64.toInt_inj, q1, q2]
    split
    · rfl
    · split <;> rfl
  simp only [List.map_cons, e1] at k1
  exact W.lcmp c1 c2 r1 k1
theorem gV_swIn {df lo hi : Int} {os : Array Int} {x off : Int} (tgt : Nat) (hl : lk pc mt.2.2.2.2.2 = some (nx, tg, .tableswitch df lo hi os)) (hx : rng x) (h1 : lo ≤ x) (h2 : x ≤ hi) (ho : os[(x - lo).toNat]? = some off) (ht : (pc : Int) + off = (tgt : Int)) (kk : gV mt d P tgt lv rest M) : gV mt d P pc lv (vI x :: rest) M := by
  intro p l e R s m args below meth c cells slots Q D ad A H0 cs C H locs ls hP hS hL
  have C' := C
  obtain ⟨c1, c2, c3, c4, c5, c6, c7, c8, c9, c10⟩ := C
  obtain ⟨r1, r2, r3⟩ := row_of c9 hl
  exact lv_tableIn c1 c2 r1 (by rw [i32_toInt hx]; omega) (by rw [i32_toInt hx]; omega) (by rw [i32_toInt hx]; exact ho) ht (kk p l e R s m args below meth c cells slots Q D ad A H0 cs C' H locs ls hP hS hL)
theorem gV_swOut {df lo hi : Int} {os : Array Int} {x : Int} (tgt : Nat) (hl : lk pc mt.2.2.2.2.2 = some (nx, tg, .tableswitch df lo hi os)) (hx : rng x) (h1 : x < lo ∨ hi < x) (ht : (pc : Int) + df = (tgt : Int)) (kk : gV mt d P tgt lv rest M) : gV mt d P pc lv (vI x :: rest) M := by
  intro p l e R s m args below meth c cells slots Q D ad A H0 cs C H locs ls hP hS hL
  have C' := C
  obtain ⟨c1, c2, c3, c4, c5, c6, c7, c8, c9, c10⟩ := C
  obtain ⟨r1, r2, r3⟩ := row_of c9 hl
  exact lv_tableOut c1 c2 r1 (by rw [i32_toInt hx]; exact h1) ht (kk p l e R s m args below meth c cells slots Q D ad A H0 cs C' H locs ls hP hS hL)
end GX
end
section
/-! field entries of each class: by program -/
def flX0 : List (Nat × Nat × Nat × Nat × Int) := [(9, 0, 0, 2, 0), (15, 0, 1, 2, 1), (18, 0, 2, 2, 2), (22, 0, 3, 2, 3), (25, 0, 4, 2, 4)]
theorem foX0_9 : fldOk RX0 (9, 0, 0, 2, 0) := ⟨rfl, RX0, TX0, 5, rfl, by decide, lw_gm 123 (by decide +kernel) rfl, (fun h => by cases h), (fun h => by cases h)⟩
theorem foX0_15 : fldOk RX0 (15, 0, 1, 2, 1) := ⟨rfl, RX0, TX0, 5, rfl, by decide, lw_gm 127 (by decide +kernel) rfl, (fun h => by cases h), (fun h => by cases h)⟩
theorem foX0_18 : fldOk RX0 (18, 0, 2, 2, 2) := ⟨rfl, RX0, TX0, 5, rfl, by decide, lw_gm 130 (by decide +kernel) rfl, (fun h => by cases h), (fun h => by cases h)⟩
theorem foX0_22 : fldOk RX0 (22, 0, 3, 2, 3) := ⟨rfl, RX0, TX0, 5, rfl, by decide, lw_gm 133 (by decide +kernel) rfl, (fun h => by cases h), (fun h => by cases h)⟩
theorem foX0_25 : fldOk RX0 (25, 0, 4, 2, 4) := ⟨rfl, RX0, TX0, 5, rfl, by decide, lw_gm 136 (by decide +kernel) rfl, (fun h => by cases h), (fun h => by cases h)⟩
theorem flX0_ok : ∀ f ∈ flX0, fldOk RX0 f := List.forall_mem_cons.mpr ⟨foX0_9, List.forall_mem_cons.mpr ⟨foX0_15, List.forall_mem_cons.mpr ⟨foX0_18, List.forall_mem_cons.mpr ⟨foX0_22, List.forall_mem_cons.mpr ⟨foX0_25, fun _ h => absurd h List.not_mem_nil⟩⟩⟩⟩⟩
def flX1 : List (Nat × Nat × Nat × Nat × Int) := [(9, 1, 1, 0, 1), (15, 1, 2, 0, 2), (18, 1, 3, 2, 3), (22, 1, 4, 2, 4), (25, 1, 5, 2, 5), (28, 1, 6, 2, 6), (31, 1, 7, 2, 7), (34, 1, 8, 2, 8), (37, 1, 9, 2, 9), (41, 1, 0, 0, 0)]
theorem foX1_9 : fldOk RX1 (9, 1, 1, 0, 1) := ⟨rfl, RX1, TX1, 10, rfl, by decide, lw_gm 159 (by decide +kernel) rfl, fun _ => ⟨rfl, rfl⟩, (fun h => by cases h)⟩
theorem foX1_15 : fldOk RX1 (15, 1, 2, 0, 2) := ⟨rfl, RX1, TX1, 10, rfl, by decide, lw_gm 161 (by decide +kernel) rfl, fun _ => ⟨rfl, rfl⟩, (fun h => by cases h)⟩
theorem foX1_18 : fldOk RX1 (18, 1, 3, 2, 3) := ⟨rfl, RX1, TX1, 10, rfl, by decide, lw_gm 163 (by decide +kernel) rfl, (fun h => by cases h), (fun h => by cases h)⟩
theorem foX1_22 : fldOk RX1 (22, 1, 4, 2, 4) := ⟨rfl, RX1, TX1, 10, rfl, by decide, lw_gm 166 (by decide +kernel) rfl, (fun h => by cases h), (fun h => by cases h)⟩
theorem foX1_25 : fldOk RX1 (25, 1, 5, 2, 5) := ⟨rfl, RX1, TX1, 10, rfl, by decide, lw_gm 168 (by decide +kernel) rfl, (fun h => by cases h), (fun h => by cases h)⟩
theorem foX1_28 : fldOk RX1 (28, 1, 6, 2, 6) := ⟨rfl, RX1, TX1, 10, rfl, by decide, lw_gm 171 (by decide +kernel) rfl, (fun h => by cases h), (fun h => by cases h)⟩
theorem foX1_31 : fldOk RX1 (31, 1, 7, 2, 7) := ⟨rfl, RX1, TX1, 10, rfl, by decide, lw_gm 173 (by decide +kernel) rfl, (fun h => by cases h), (fun h => by cases h)⟩
theorem foX1_34 : fldOk RX1 (34, 1, 8, 2, 8) := ⟨rfl, RX1, TX1, 10, rfl, by decide, lw_gm 176 (by decide +kernel) rfl, (fun h => by cases h), (fun h => by cases h)⟩
theorem foX1_37 : fldOk RX1 (37, 1, 9, 2, 9) := ⟨rfl, RX1, TX1, 10, rfl, by decide, lw_gm 177 (by decide +kernel) rfl, (fun h => by cases h), (fun h => by cases h)⟩
theorem foX1_41 : fldOk RX1 (41, 1, 0, 0, 0) := ⟨rfl, RX1, TX1, 10, rfl, by decide, lw_gm 156 (by decide +kernel) rfl, fun _ => ⟨rfl, rfl⟩, (fun h => by cases h)⟩
theorem flX1_ok : ∀ f ∈ flX1, fldOk RX1 f := List.forall_mem_cons.mpr ⟨foX1_9, List.forall_mem_cons.mpr ⟨foX1_15, List.forall_mem_cons.mpr ⟨foX1_18, List.forall_mem_cons.mpr ⟨foX1_22, List.forall_mem_cons.mpr ⟨foX1_25, List.forall_mem_cons.mpr ⟨foX1_28, List.forall_mem_cons.mpr ⟨foX1_31, List.forall_mem_cons.mpr ⟨foX1_34, List.forall_mem_cons.mpr ⟨foX1_37, List.forall_mem_cons.mpr ⟨foX1_41, fun _ h => absurd h List.not_mem_nil⟩⟩⟩⟩⟩⟩⟩⟩⟩⟩
def flX2 : List (Nat × Nat × Nat × Nat × Int) := [(9, 2, 1, 2, 1), (15, 2, 2, 2, 2), (18, 2, 3, 2, 3), (21, 2, 4, 2, 4), (24, 2, 5, 2, 5), (27, 2, 6, 2, 6), (30, 2, 7, 2, 7), (33, 2, 8, 2, 8), (36, 2, 9, 2, 9), (39, 2, 10, 2, 10), (42, 2, 11, 2, 11), (45, 2, 0, 0, 0)]
theorem foX2_9 : fldOk RX2 (9, 2, 1, 2, 1) := ⟨rfl, RX2, TX2, 12, rfl, by decide, lw_gm 209 (by decide +kernel) rfl, (fun h => by cases h), (fun h => by cases h)⟩
theorem foX2_15 : fldOk RX2 (15, 2, 2, 2, 2) := ⟨rfl, RX2, TX2, 12, rfl, by decide, lw_gm 212 (by decide +kernel) rfl, (fun h => by cases h), (fun h => by cases h)⟩
theorem foX2_18 : fldOk RX2 (18, 2, 3, 2, 3) := ⟨rfl, RX2, TX2, 12, rfl, by decide, lw_gm 215 (by decide +kernel) rfl, (fun h => by cases h), (fun h => by cases h)⟩
theorem foX2_21 : fldOk RX2 (21, 2, 4, 2, 4) := ⟨rfl, RX2, TX2, 12, rfl, by decide, lw_gm 218 (by decide +kernel) rfl, (fun h => by cases h), (fun h => by cases h)⟩
theorem foX2_24 : fldOk RX2 (24, 2, 5, 2, 5) := ⟨rfl, RX2, TX2, 12, rfl, by decide, lw_gm 221 (by decide +kernel) rfl, (fun h => by cases h), (fun h => by cases h)⟩
theorem foX2_27 : fldOk RX2 (27, 2, 6, 2, 6) := ⟨rfl, RX2, TX2, 12, rfl, by decide, lw_gm 224 (by decide +kernel) rfl, (fun h => by cases h), (fun h => by cases h)⟩
theorem foX2_30 : fldOk RX2 (30, 2, 7, 2, 7) := ⟨rfl, RX2, TX2, 12, rfl, by decide, lw_gm 226 (by decide +kernel) rfl, (fun h => by cases h), (fun h => by cases h)⟩
theorem foX2_33 : fldOk RX2 (33, 2, 8, 2, 8) := ⟨rfl, RX2, TX2, 12, rfl, by decide, lw_gm 229 (by decide +kernel) rfl, (fun h => by cases h), (fun h => by cases h)⟩
theorem foX2_36 : fldOk RX2 (36, 2, 9, 2, 9) := ⟨rfl, RX2, TX2, 12, rfl, by decide, lw_gm 232 (by decide +kernel) rfl, (fun h => by cases h), (fun h => by cases h)⟩
theorem foX2_39 : fldOk RX2 (39, 2, 10, 2, 10) := ⟨rfl, RX2, TX2, 12, rfl, by decide, lw_gm 235 (by decide +kernel) rfl, (fun h => by cases h), (fun h => by cases h)⟩
theorem foX2_42 : fldOk RX2 (42, 2, 11, 2, 11) := ⟨rfl, RX2, TX2, 12, rfl, by decide, lw_gm 238 (by decide +kernel) rfl, (fun h => by cases h), (fun h => by cases h)⟩
theorem foX2_45 : fldOk RX2 (45, 2, 0, 0, 0) := ⟨rfl, RX2, TX2, 12, rfl, by decide, lw_gm 206 (by decide +kernel) rfl, fun _ => ⟨rfl, rfl⟩, (fun h => by cases h)⟩
theorem flX2_ok : ∀ f ∈ flX2, fldOk RX2 f := List.forall_mem_cons.mpr ⟨foX2_9, List.forall_mem_cons.mpr ⟨foX2_15, List.forall_mem_cons.mpr ⟨foX2_18, List.forall_mem_cons.mpr ⟨foX2_21, List.forall_mem_cons.mpr ⟨foX2_24, List.forall_mem_cons.mpr ⟨foX2_27, List.forall_mem_cons.mpr ⟨foX2_30, List.forall_mem_cons.mpr ⟨foX2_33, List.forall_mem_cons.mpr ⟨foX2_36, List.forall_mem_cons.mpr ⟨foX2_39, List.forall_mem_cons.mpr ⟨foX2_42, List.forall_mem_cons.mpr ⟨foX2_45, fun _ h => absurd h List.not_mem_nil⟩⟩⟩⟩⟩⟩⟩⟩⟩⟩⟩⟩
def flX3 : List (Nat × Nat × Nat × Nat × Int) := [(9, 3, 1, 2, 1), (15, 3, 2, 2, 2), (18, 3, 3, 2, 3), (24, 3, 4, 2, 4), (27, 3, 5, 2, 5), (30, 3, 6, 2, 6), (33, 3, 7, 2, 7), (36, 3, 8, 2, 8), (39, 3, 0, 0, 0)]
theorem foX3_9 : fldOk RX3 (9, 3, 1, 2, 1) := ⟨rfl, RX3, TX3, 9, rfl, by decide, lw_gm 71 (by decide +kernel) rfl, (fun h => by cases h), (fun h => by cases h)⟩
theorem foX3_15 : fldOk RX3 (15, 3, 2, 2, 2) := ⟨rfl, RX3, TX3, 9, rfl, by decide, lw_gm 75 (by decide +kernel) rfl, (fun h => by cases h), (fun h => by cases h)⟩
theorem foX3_18 : fldOk RX3 (18, 3, 3, 2, 3) := ⟨rfl, RX3, TX3, 9, rfl, by decide, lw_gm 78 (by decide +kernel) rfl, (fun h => by cases h), (fun h => by cases h)⟩
theorem foX3_24 : fldOk RX3 (24, 3, 4, 2, 4) := ⟨rfl, RX3, TX3, 9, rfl, by decide, lw_gm 82 (by decide +kernel) rfl, (fun h => by cases h), (fun h => by cases h)⟩
theorem foX3_27 : fldOk RX3 (27, 3, 5, 2, 5) := ⟨rfl, RX3, TX3, 9, rfl, by decide, lw_gm 84 (by decide +kernel) rfl, (fun h => by cases h), (fun h => by cases h)⟩
theorem foX3_30 : fldOk RX3 (30, 3, 6, 2, 6) := ⟨rfl, RX3, TX3, 9, rfl, by decide, lw_gm 87 (by decide +kernel) rfl, (fun h => by cases h), (fun h => by cases h)⟩
theorem foX3_33 : fldOk RX3 (33, 3, 7, 2, 7) := ⟨rfl, RX3, TX3, 9, rfl, by decide, lw_gm 90 (by decide +kernel) rfl, (fun h => by cases h), (fun h => by cases h)⟩
theorem foX3_36 : fldOk RX3 (36, 3, 8, 2, 8) := ⟨rfl, RX3, TX3, 9, rfl, by decide, lw_gm 93 (by decide +kernel) rfl, (fun h => by cases h), (fun h => by cases h)⟩
theorem foX3_39 : fldOk RX3 (39, 3, 0, 0, 0) := ⟨rfl, RX3, TX3, 9, rfl, by decide, lw_gm 67 (by decide +kernel) rfl, fun _ => ⟨rfl, rfl⟩, (fun h => by cases h)⟩
theorem flX3_ok : ∀ f ∈ flX3, fldOk RX3 f := List.forall_mem_cons.mpr ⟨foX3_9, List.forall_mem_cons.mpr ⟨foX3_15, List.forall_mem_cons.mpr ⟨foX3_18, List.forall_mem_cons.mpr ⟨foX3_24, List.forall_mem_cons.mpr ⟨foX3_27, List.forall_mem_cons.mpr ⟨foX3_30, List.forall_mem_cons.mpr ⟨foX3_33, List.forall_mem_cons.mpr ⟨foX3_36, List.forall_mem_cons.mpr ⟨foX3_39, fun _ h => absurd h List.not_mem_nil⟩⟩⟩⟩⟩⟩⟩⟩⟩
def flX4 : List (Nat × Nat × Nat × Nat × Int) := [(9, 4, 1, 2, 1), (15, 4, 5, 2, 5), (18, 4, 6, 2, 6), (21, 4, 7, 2, 7), (24, 4, 2, 2, 2), (28, 4, 3, 2, 3), (32, 4, 4, 2, 4), (36, 1, 0, 0, 0), (42, 0, 0, 2, 0), (51, 1, 3, 2, 3), (58, 3, 0, 0, 0), (61, 3, 3, 2, 3), (72, 4, 10, 0, 10), (75, 4, 8, 0, 8), (78, 4, 9, 0, 9), (81, 3, 1, 2, 1), (87, 4, 11, 0, 11), (107, 4, 0, 1, 0)]
theorem foX4_9 : fldOk RX4 (9, 4, 1, 2, 1) := ⟨rfl, RX4, TX4, 12, rfl, by decide, lw_gm 304 (by decide +kernel) rfl, (fun h => by cases h), (fun h => by cases h)⟩
theorem foX4_15 : fldOk RX4 (15, 4, 5, 2, 5) := ⟨rfl, RX4, TX4, 12, rfl, by decide, lw_gm 309 (by decide +kernel) rfl, (fun h => by cases h), (fun h => by cases h)⟩
theorem foX4_18 : fldOk RX4 (18, 4, 6, 2, 6) := ⟨rfl, RX4, TX4, 12, rfl, by decide, lw_gm 310 (by decide +kernel) rfl, (fun h => by cases h), (fun h => by cases h)⟩
theorem foX4_21 : fldOk RX4 (21, 4, 7, 2, 7) := ⟨rfl, RX4, TX4, 12, rfl, by decide, lw_gm 311 (by decide +kernel) rfl, (fun h => by cases h), (fun h => by cases h)⟩
theorem foX4_24 : fldOk RX4 (24, 4, 2, 2, 2) := ⟨rfl, RX4, TX4, 12, rfl, by decide, lw_gm 306 (by decide +kernel) rfl, (fun h => by cases h), (fun h => by cases h)⟩
theorem foX4_28 : fldOk RX4 (28, 4, 3, 2, 3) := ⟨rfl, RX4, TX4, 12, rfl, by decide, lw_gm 307 (by decide +kernel) rfl, (fun h => by cases h), (fun h => by cases h)⟩
theorem foX4_32 : fldOk RX4 (32, 4, 4, 2, 4) := ⟨rfl, RX4, TX4, 12, rfl, by decide, lw_gm 308 (by decide +kernel) rfl, (fun h => by cases h), (fun h => by cases h)⟩
theorem foX4_36 : fldOk RX4 (36, 1, 0, 0, 0) := ⟨rfl, RX1, TX1, 10, rfl, by decide, lw_gm 157 (by decide +kernel) rfl, fun _ => ⟨rfl, rfl⟩, (fun h => by cases h)⟩
theorem foX4_42 : fldOk RX4 (42, 0, 0, 2, 0) := ⟨rfl, RX0, TX0, 5, rfl, by decide, lw_gm 124 (by decide +kernel) rfl, (fun h => by cases h), (fun h => by cases h)⟩
theorem foX4_51 : fldOk RX4 (51, 1, 3, 2, 3) := ⟨rfl, RX1, TX1, 10, rfl, by decide, lw_gm 164 (by decide +kernel) rfl, (fun h => by cases h), (fun h => by cases h)⟩
theorem foX4_58 : fldOk RX4 (58, 3, 0, 0, 0) := ⟨rfl, RX3, TX3, 9, rfl, by decide, lw_gm 69 (by decide +kernel) rfl, fun _ => ⟨rfl, rfl⟩, (fun h => by cases h)⟩
theorem foX4_61 : fldOk RX4 (61, 3, 3, 2, 3) := ⟨rfl, RX3, TX3, 9, rfl, by decide, lw_gm 79 (by decide +kernel) rfl, (fun h => by cases h), (fun h => by cases h)⟩
theorem foX4_72 : fldOk RX4 (72, 4, 10, 0, 10) := ⟨rfl, RX4, TX4, 12, rfl, by decide, lw_gm 314 (by decide +kernel) rfl, fun _ => ⟨rfl, rfl⟩, (fun h => by cases h)⟩
theorem foX4_75 : fldOk RX4 (75, 4, 8, 0, 8) := ⟨rfl, RX4, TX4, 12, rfl, by decide, lw_gm 312 (by decide +kernel) rfl, fun _ => ⟨rfl, rfl⟩, (fun h => by cases h)⟩
theorem foX4_78 : fldOk RX4 (78, 4, 9, 0, 9) := ⟨rfl, RX4, TX4, 12, rfl, by decide, lw_gm 313 (by decide +kernel) rfl, fun _ => ⟨rfl, rfl⟩, (fun h => by cases h)⟩
theorem foX4_81 : fldOk RX4 (81, 3, 1, 2, 1) := ⟨rfl, RX3, TX3, 9, rfl, by decide, lw_gm 72 (by decide +kernel) rfl, (fun h => by cases h), (fun h => by cases h)⟩
theorem foX4_87 : fldOk RX4 (87, 4, 11, 0, 11) := ⟨rfl, RX4, TX4, 12, rfl, by decide, lw_gm 315 (by decide +kernel) rfl, fun _ => ⟨rfl, rfl⟩, (fun h => by cases h)⟩
theorem foX4_107 : fldOk RX4 (107, 4, 0, 1, 0) := ⟨rfl, RX4, TX4, 12, rfl, by decide, lw_gm 302 (by decide +kernel) rfl, (fun h => by cases h), fun _ => ⟨rfl, rfl⟩⟩
theorem flX4_ok : ∀ f ∈ flX4, fldOk RX4 f := List.forall_mem_cons.mpr ⟨foX4_9, List.forall_mem_cons.mpr ⟨foX4_15, List.forall_mem_cons.mpr ⟨foX4_18, List.forall_mem_cons.mpr ⟨foX4_21, List.forall_mem_cons.mpr ⟨foX4_24, List.forall_mem_cons.mpr ⟨foX4_28, List.forall_mem_cons.mpr ⟨foX4_32, List.forall_mem_cons.mpr ⟨foX4_36, List.forall_mem_cons.mpr ⟨foX4_42, List.forall_mem_cons.mpr ⟨foX4_51, List.forall_mem_cons.mpr ⟨foX4_58, List.forall_mem_cons.mpr ⟨foX4_61, List.forall_mem_cons.mpr ⟨foX4_72, List.forall_mem_cons.mpr ⟨foX4_75, List.forall_mem_cons.mpr ⟨foX4_78, List.forall_mem_cons.mpr ⟨foX4_81, List.forall_mem_cons.mpr ⟨foX4_87, List.forall_mem_cons.mpr ⟨foX4_107, fun _ h => absurd h List.not_mem_nil⟩⟩⟩⟩⟩⟩⟩⟩⟩⟩⟩⟩⟩⟩⟩⟩⟩⟩
def flX5 : List (Nat × Nat × Nat × Nat × Int) := [(9, 5, 6, 2, 6), (15, 5, 2, 2, 2), (19, 5, 3, 2, 3), (23, 5, 4, 2, 4), (27, 5, 5, 2, 5), (31, 2, 0, 0, 0), (43, 1, 5, 2, 5), (47, 5, 0, 0, 0), (54, 0, 2, 2, 2), (59, 0, 0, 2, 0), (62, 0, 3, 2, 3), (69, 3, 7, 2, 7), (74, 3, 4, 2, 4), (78, 2, 5, 2, 5), (91, 3, 0, 0, 0), (92, 3, 3, 2, 3), (102, 2, 11, 2, 11), (115, 3, 6, 2, 6), (118, 3, 1, 2, 1), (127, 2, 7, 2, 7), (130, 2, 8, 2, 8), (133, 3, 2, 2, 2), (136, 3, 8, 2, 8), (139, 3, 5, 2, 5), (142, 5, 1, 1, 1), (149, 2, 1, 2, 1), (152, 2, 4, 2, 4), (155, 2, 10, 2, 10), (158, 2, 9, 2, 9), (161, 2, 2, 2, 2), (167, 0, 1, 2, 1), (177, 2, 3, 2, 3), (180, 0, 4, 2, 4), (196, 1, 7, 2, 7)]
theorem foX5_9 : fldOk RX5 (9, 5, 6, 2, 6) := ⟨rfl, RX5, TX5, 7, rfl, by decide, lw_gm 280 (by decide +kernel) rfl, (fun h => by cases h), (fun h => by cases h)⟩
theorem foX5_15 : fldOk RX5 (15, 5, 2, 2, 2) := ⟨rfl, RX5, TX5, 7, rfl, by decide, lw_gm 276 (by decide +kernel) rfl, (fun h => by cases h), (fun h => by cases h)⟩
theorem foX5_19 : fldOk RX5 (19, 5, 3, 2, 3) := ⟨rfl, RX5, TX5, 7, rfl, by decide, lw_gm 277 (by decide +kernel) rfl, (fun h => by cases h), (fun h => by cases h)⟩
theorem foX5_23 : fldOk RX5 (23, 5, 4, 2, 4) := ⟨rfl, RX5, TX5, 7, rfl, by decide, lw_gm 278 (by decide +kernel) rfl, (fun h => by cases h), (fun h => by cases h)⟩
theorem foX5_27 : fldOk RX5 (27, 5, 5, 2, 5) := ⟨rfl, RX5, TX5, 7, rfl, by decide, lw_gm 279 (by decide +kernel) rfl, (fun h => by cases h), (fun h => by cases h)⟩
theorem foX5_31 : fldOk RX5 (31, 2, 0, 0, 0) := ⟨rfl, RX2, TX2, 12, rfl, by decide, lw_gm 207 (by decide +kernel) rfl, fun _ => ⟨rfl, rfl⟩, (fun h => by cases h)⟩
theorem foX5_43 : fldOk RX5 (43, 1, 5, 2, 5) := ⟨rfl, RX1, TX1, 10, rfl, by decide, lw_gm 169 (by decide +kernel) rfl, (fun h => by cases h), (fun h => by cases h)⟩
theorem foX5_47 : fldOk RX5 (47, 5, 0, 0, 0) := ⟨rfl, RX5, TX5, 7, rfl, by decide, lw_gm 272 (by decide +kernel) rfl, fun _ => ⟨rfl, rfl⟩, (fun h => by cases h)⟩
theorem foX5_54 : fldOk RX5 (54, 0, 2, 2, 2) := ⟨rfl, RX0, TX0, 5, rfl, by decide, lw_gm 131 (by decide +kernel) rfl, (fun h => by cases h), (fun h => by cases h)⟩
theorem foX5_59 : fldOk RX5 (59, 0, 0, 2, 0) := ⟨rfl, RX0, TX0, 5, rfl, by decide, lw_gm 125 (by decide +kernel) rfl, (fun h => by cases h), (fun h => by cases h)⟩
theorem foX5_62 : fldOk RX5 (62, 0, 3, 2, 3) := ⟨rfl, RX0, TX0, 5, rfl, by decide, lw_gm 134 (by decide +kernel) rfl, (fun h => by cases h), (fun h => by cases h)⟩
theorem foX5_69 : fldOk RX5 (69, 3, 7, 2, 7) := ⟨rfl, RX3, TX3, 9, rfl, by decide, lw_gm 91 (by decide +kernel) rfl, (fun h => by cases h), (fun h => by cases h)⟩
theorem foX5_74 : fldOk RX5 (74, 3, 4, 2, 4) := ⟨rfl, RX3, TX3, 9, rfl, by decide, lw_gm 83 (by decide +kernel) rfl, (fun h => by cases h), (fun h => by cases h)⟩
theorem foX5_78 : fldOk RX5 (78, 2, 5, 2, 5) := ⟨rfl, RX2, TX2, 12, rfl, by decide, lw_gm 222 (by decide +kernel) rfl, (fun h => by cases h), (fun h => by cases h)⟩
theorem foX5_91 : fldOk RX5 (91, 3, 0, 0, 0) := ⟨rfl, RX3, TX3, 9, rfl, by decide, lw_gm 70 (by decide +kernel) rfl, fun _ => ⟨rfl, rfl⟩, (fun h => by cases h)⟩
theorem foX5_92 : fldOk RX5 (92, 3, 3, 2, 3) := ⟨rfl, RX3, TX3, 9, rfl, by decide, lw_gm 80 (by decide +kernel) rfl, (fun h => by cases h), (fun h => by cases h)⟩
theorem foX5_102 : fldOk RX5 (102, 2, 11, 2, 11) := ⟨rfl, RX2, TX2, 12, rfl, by decide, lw_gm 239 (by decide +kernel) rfl, (fun h => by cases h), (fun h => by cases h)⟩
theorem foX5_115 : fldOk RX5 (115, 3, 6, 2, 6) := ⟨rfl, RX3, TX3, 9, rfl, by decide, lw_gm 88 (by decide +kernel) rfl, (fun h => by cases h), (fun h => by cases h)⟩
theorem foX5_118 : fldOk RX5 (118, 3, 1, 2, 1) := ⟨rfl, RX3, TX3, 9, rfl, by decide, lw_gm 73 (by decide +kernel) rfl, (fun h => by cases h), (fun h => by cases h)⟩
theorem foX5_127 : fldOk RX5 (127, 2, 7, 2, 7) := ⟨rfl, RX2, TX2, 12, rfl, by decide, lw_gm 227 (by decide +kernel) rfl, (fun h => by cases h), (fun h => by cases h)⟩
theorem foX5_130 : fldOk RX5 (130, 2, 8, 2, 8) := ⟨rfl, RX2, TX2, 12, rfl, by decide, lw_gm 230 (by decide +kernel) rfl, (fun h => by cases h), (fun h => by cases h)⟩
theorem foX5_133 : fldOk RX5 (133, 3, 2, 2, 2) := ⟨rfl, RX3, TX3, 9, rfl, by decide, lw_gm 76 (by decide +kernel) rfl, (fun h => by cases h), (fun h => by cases h)⟩
theorem foX5_136 : fldOk RX5 (136, 3, 8, 2, 8) := ⟨rfl, RX3, TX3, 9, rfl, by decide, lw_gm 94 (by decide +kernel) rfl, (fun h => by cases h), (fun h => by cases h)⟩
theorem foX5_139 : fldOk RX5 (139, 3, 5, 2, 5) := ⟨rfl, RX3, TX3, 9, rfl, by decide, lw_gm 85 (by decide +kernel) rfl, (fun h => by cases h), (fun h => by cases h)⟩
theorem foX5_142 : fldOk RX5 (142, 5, 1, 1, 1) := ⟨rfl, RX5, TX5, 7, rfl, by decide, lw_gm 275 (by decide +kernel) rfl, (fun h => by cases h), fun _ => ⟨rfl, rfl⟩⟩
theorem foX5_149 : fldOk RX5 (149, 2, 1, 2, 1) := ⟨rfl, RX2, TX2, 12, rfl, by decide, lw_gm 210 (by decide +kernel) rfl, (fun h => by cases h), (fun h => by cases h)⟩
theorem foX5_152 : fldOk RX5 (152, 2, 4, 2, 4) := ⟨rfl, RX2, TX2, 12, rfl, by decide, lw_gm 219 (by decide +kernel) rfl, (fun h => by cases h), (fun h => by cases h)⟩
theorem foX5_155 : fldOk RX5 (155, 2, 10, 2, 10) := ⟨rfl, RX2, TX2, 12, rfl, by decide, lw_gm 236 (by decide +kernel) rfl, (fun h => by cases h), (fun h => by cases h)⟩
theorem foX5_158 : fldOk RX5 (158, 2, 9, 2, 9) := ⟨rfl, RX2, TX2, 12, rfl, by decide, lw_gm 233 (by decide +kernel) rfl, (fun h => by cases h), (fun h => by cases h)⟩
theorem foX5_161 : fldOk RX5 (161, 2, 2, 2, 2) := ⟨rfl, RX2, TX2, 12, rfl, by decide, lw_gm 213 (by decide +kernel) rfl, (fun h => by cases h), (fun h => by cases h)⟩
theorem foX5_167 : fldOk RX5 (167, 0, 1, 2, 1) := ⟨rfl, RX0, TX0, 5, rfl, by decide, lw_gm 128 (by decide +kernel) rfl, (fun h => by cases h), (fun h => by cases h)⟩
theorem foX5_177 : fldOk RX5 (177, 2, 3, 2, 3) := ⟨rfl, RX2, TX2, 12, rfl, by decide, lw_gm 216 (by decide +kernel) rfl, (fun h => by cases h), (fun h => by cases h)⟩
theorem foX5_180 : fldOk RX5 (180, 0, 4, 2, 4) := ⟨rfl, RX0, TX0, 5, rfl, by decide, lw_gm 137 (by decide +kernel) rfl, (fun h => by cases h), (fun h => by cases h)⟩
theorem foX5_196 : fldOk RX5 (196, 1, 7, 2, 7) := ⟨rfl, RX1, TX1, 10, rfl, by decide, lw_gm 174 (by decide +kernel) rfl, (fun h => by cases h), (fun h => by cases h)⟩
theorem flX5_ok : ∀ f ∈ flX5, fldOk RX5 f := List.forall_mem_cons.mpr ⟨foX5_9, List.forall_mem_cons.mpr ⟨foX5_15, List.forall_mem_cons.mpr ⟨foX5_19, List.forall_mem_cons.mpr ⟨foX5_23, List.forall_mem_cons.mpr ⟨foX5_27, List.forall_mem_cons.mpr ⟨foX5_31, List.forall_mem_cons.mpr ⟨foX5_43, List.forall_mem_cons.mpr ⟨foX5_47, List.forall_mem_cons.mpr ⟨foX5_54, List.forall_mem_cons.mpr ⟨foX5_59, List.forall_mem_cons.mpr ⟨foX5_62, List.forall_mem_cons.mpr ⟨foX5_69, List.forall_mem_cons.mpr ⟨foX5_74, List.forall_mem_cons.mpr ⟨foX5_78, List.forall_mem_cons.mpr ⟨foX5_91, List.forall_mem_cons.mpr ⟨foX5_92, List.forall_mem_cons.mpr ⟨foX5_102, List.forall_mem_cons.mpr ⟨foX5_115, List.forall_mem_cons.mpr ⟨foX5_118, List.forall_mem_cons.mpr ⟨foX5_127, List.forall_mem_cons.mpr ⟨foX5_130, List.forall_mem_cons.mpr ⟨foX5_133, List.forall_mem_cons.mpr ⟨foX5_136, List.forall_mem_cons.mpr ⟨foX5_139, List.forall_mem_cons.mpr ⟨foX5_142, List.forall_mem_cons.mpr ⟨foX5_149, List.forall_mem_cons.mpr ⟨foX5_152, List.forall_mem_cons.mpr ⟨foX5_155, List.forall_mem_cons.mpr ⟨foX5_158, List.forall_mem_cons.mpr ⟨foX5_161, List.forall_mem_cons.mpr ⟨foX5_167, List.forall_mem_cons.mpr ⟨foX5_177, List.forall_mem_cons.mpr ⟨foX5_180, List.forall_mem_cons.mpr ⟨foX5_196, fun _ h => absurd h List.not_mem_nil⟩⟩⟩⟩⟩⟩⟩⟩⟩⟩⟩⟩⟩⟩⟩⟩⟩⟩⟩⟩⟩⟩⟩⟩⟩⟩⟩⟩⟩⟩⟩⟩⟩⟩
def flX6 : List (Nat × Nat × Nat × Nat × Int) := [(10, 6, 0, 2, 0), (19, 6, 1, 2, 1), (26, 6, 2, 2, 2), (33, 6, 3, 2, 3), (42, 6, 4, 2, 4), (51, 6, 5, 2, 5), (59, 3, 0, 0, 0), (71, 1, 0, 0, 0), (78, 1, 3, 2, 3), (89, 1, 4, 2, 4), (95, 1, 1, 0, 1), (98, 1, 2, 0, 2), (101, 5, 1, 1, 1), (109, 2, 0, 0, 0), (114, 5, 0, 0, 0), (123, 0, 0, 2, 0), (129, 3, 3, 2, 3), (136, 0, 1, 2, 1), (145, 2, 1, 2, 1), (148, 2, 2, 2, 2), (151, 2, 3, 2, 3), (154, 2, 4, 2, 4), (157, 2, 5, 2, 5), (160, 2, 6, 2, 6), (163, 2, 7, 2, 7), (166, 2, 8, 2, 8), (169, 2, 9, 2, 9), (172, 3, 1, 2, 1), (175, 3, 2, 2, 2), (178, 3, 7, 2, 7), (181, 3, 6, 2, 6), (184, 3, 5, 2, 5), (193, 3, 8, 2, 8), (196, 0, 2, 2, 2), (199, 0, 3, 2, 3), (205, 0, 4, 2, 4), (208, 1, 5, 2, 5), (211, 1, 6, 2, 6), (214, 1, 7, 2, 7), (217, 2, 11, 2, 11), (220, 2, 10, 2, 10), (223, 1, 9, 2, 9), (235, 4, 0, 1, 0), (238, 4, 1, 2, 1)]
theorem foX6_10 : fldOk RX6 (10, 6, 0, 2, 0) := ⟨rfl, RX6, TX6, 6, rfl, by decide, lw_gm 341 (by decide +kernel) rfl, (fun h => by cases h), (fun h => by cases h)⟩
theorem foX6_19 : fldOk RX6 (19, 6, 1, 2, 1) := ⟨rfl, RX6, TX6, 6, rfl, by decide, lw_gm 342 (by decide +kernel) rfl, (fun h => by cases h), (fun h => by cases h)⟩
theorem foX6_26 : fldOk RX6 (26, 6, 2, 2, 2) := ⟨rfl, RX6, TX6, 6, rfl, by decide, lw_gm 343 (by decide +kernel) rfl, (fun h => by cases h), (fun h => by cases h)⟩
theorem foX6_33 : fldOk RX6 (33, 6, 3, 2, 3) := ⟨rfl, RX6, TX6, 6, rfl, by decide, lw_gm 344 (by decide +kernel) rfl, (fun h => by cases h), (fun h => by cases h)⟩
theorem foX6_42 : fldOk RX6 (42, 6, 4, 2, 4) := ⟨rfl, RX6, TX6, 6, rfl, by decide, lw_gm 345 (by decide +kernel) rfl, (fun h => by cases h), (fun h => by cases h)⟩
theorem foX6_51 : fldOk RX6 (51, 6, 5, 2, 5) := ⟨rfl, RX6, TX6, 6, rfl, by decide, lw_gm 346 (by decide +kernel) rfl, (fun h => by cases h), (fun h => by cases h)⟩
theorem foX6_59 : fldOk RX6 (59, 3, 0, 0, 0) := ⟨rfl, RX3, TX3, 9, rfl, by decide, lw_gm 68 (by decide +kernel) rfl, fun _ => ⟨rfl, rfl⟩, (fun h => by cases h)⟩
theorem foX6_71 : fldOk RX6 (71, 1, 0, 0, 0) := ⟨rfl, RX1, TX1, 10, rfl, by decide, lw_gm 158 (by decide +kernel) rfl, fun _ => ⟨rfl, rfl⟩, (fun h => by cases h)⟩
theorem foX6_78 : fldOk RX6 (78, 1, 3, 2, 3) := ⟨rfl, RX1, TX1, 10, rfl, by decide, lw_gm 165 (by decide +kernel) rfl, (fun h => by cases h), (fun h => by cases h)⟩
theorem foX6_89 : fldOk RX6 (89, 1, 4, 2, 4) := ⟨rfl, RX1, TX1, 10, rfl, by decide, lw_gm 167 (by decide +kernel) rfl, (fun h => by cases h), (fun h => by cases h)⟩
theorem foX6_95 : fldOk RX6 (95, 1, 1, 0, 1) := ⟨rfl, RX1, TX1, 10, rfl, by decide, lw_gm 160 (by decide +kernel) rfl, fun _ => ⟨rfl, rfl⟩, (fun h => by cases h)⟩
theorem foX6_98 : fldOk RX6 (98, 1, 2, 0, 2) := ⟨rfl, RX1, TX1, 10, rfl, by decide, lw_gm 162 (by decide +kernel) rfl, fun _ => ⟨rfl, rfl⟩, (fun h => by cases h)⟩
theorem foX6_101 : fldOk RX6 (101, 5, 1, 1, 1) := ⟨rfl, RX5, TX5, 7, rfl, by decide, lw_gm 274 (by decide +kernel) rfl, (fun h => by cases h), fun _ => ⟨rfl, rfl⟩⟩
theorem foX6_109 : fldOk RX6 (109, 2, 0, 0, 0) := ⟨rfl, RX2, TX2, 12, rfl, by decide, lw_gm 208 (by decide +kernel) rfl, fun _ => ⟨rfl, rfl⟩, (fun h => by cases h)⟩
theorem foX6_114 : fldOk RX6 (114, 5, 0, 0, 0) := ⟨rfl, RX5, TX5, 7, rfl, by decide, lw_gm 273 (by decide +kernel) rfl, fun _ => ⟨rfl, rfl⟩, (fun h => by cases h)⟩
theorem foX6_123 : fldOk RX6 (123, 0, 0, 2, 0) := ⟨rfl, RX0, TX0, 5, rfl, by decide, lw_gm 126 (by decide +kernel) rfl, (fun h => by cases h), (fun h => by cases h)⟩
theorem foX6_129 : fldOk RX6 (129, 3, 3, 2, 3) := ⟨rfl, RX3, TX3, 9, rfl, by decide, lw_gm 81 (by decide +kernel) rfl, (fun h => by cases h), (fun h => by cases h)⟩
theorem foX6_136 : fldOk RX6 (136, 0, 1, 2, 1) := ⟨rfl, RX0, TX0, 5, rfl, by decide, lw_gm 129 (by decide +kernel) rfl, (fun h => by cases h), (fun h => by cases h)⟩
theorem foX6_145 : fldOk RX6 (145, 2, 1, 2, 1) := ⟨rfl, RX2, TX2, 12, rfl, by decide, lw_gm 211 (by decide +kernel) rfl, (fun h => by cases h), (fun h => by cases h)⟩
theorem foX6_148 : fldOk RX6 (148, 2, 2, 2, 2) := ⟨rfl, RX2, TX2, 12, rfl, by decide, lw_gm 214 (by decide +kernel) rfl, (fun h => by cases h), (fun h => by cases h)⟩
theorem foX6_151 : fldOk RX6 (151, 2, 3, 2, 3) := ⟨rfl, RX2, TX2, 12, rfl, by decide, lw_gm 217 (by decide +kernel) rfl, (fun h => by cases h), (fun h => by cases h)⟩
theorem foX6_154 : fldOk RX6 (154, 2, 4, 2, 4) := ⟨rfl, RX2, TX2, 12, rfl, by decide, lw_gm 220 (by decide +kernel) rfl, (fun h => by cases h), (fun h => by cases h)⟩
theorem foX6_157 : fldOk RX6 (157, 2, 5, 2, 5) := ⟨rfl, RX2, TX2, 12, rfl, by decide, lw_gm 223 (by decide +kernel) rfl, (fun h => by cases h), (fun h => by cases h)⟩
theorem foX6_160 : fldOk RX6 (160, 2, 6, 2, 6) := ⟨rfl, RX2, TX2, 12, rfl, by decide, lw_gm 225 (by decide +kernel) rfl, (fun h => by cases h), (fun h => by cases h)⟩
theorem foX6_163 : fldOk RX6 (163, 2, 7, 2, 7) := ⟨rfl, RX2, TX2, 12, rfl, by decide, lw_gm 228 (by decide +kernel) rfl, (fun h => by cases h), (fun h => by cases h)⟩
theorem foX6_166 : fldOk RX6 (166, 2, 8, 2, 8) := ⟨rfl, RX2, TX2, 12, rfl, by decide, lw_gm 231 (by decide +kernel) rfl, (fun h => by cases h), (fun h => by cases h)⟩
theorem foX6_169 : fldOk RX6 (169, 2, 9, 2, 9) := ⟨rfl, RX2, TX2, 12, rfl, by decide, lw_gm 234 (by decide +kernel) rfl, (fun h => by cases h), (fun h => by cases h)⟩
theorem foX6_172 : fldOk RX6 (172, 3, 1, 2, 1) := ⟨rfl, RX3, TX3, 9, rfl, by decide, lw_gm 74 (by decide +kernel) rfl, (fun h => by cases h), (fun h => by cases h)⟩
theorem foX6_175 : fldOk RX6 (175, 3, 2, 2, 2) := ⟨rfl, RX3, TX3, 9, rfl, by decide, lw_gm 77 (by decide +kernel) rfl, (fun h => by cases h), (fun h => by cases h)⟩
theorem foX6_178 : fldOk RX6 (178, 3, 7, 2, 7) := ⟨rfl, RX3, TX3, 9, rfl, by decide, lw_gm 92 (by decide +kernel) rfl, (fun h => by cases h), (fun h => by cases h)⟩
theorem foX6_181 : fldOk RX6 (181, 3, 6, 2, 6) := ⟨rfl, RX3, TX3, 9, rfl, by decide, lw_gm 89 (by decide +kernel) rfl, (fun h => by cases h), (fun h => by cases h)⟩
theorem foX6_184 : fldOk RX6 (184, 3, 5, 2, 5) := ⟨rfl, RX3, TX3, 9, rfl, by decide, lw_gm 86 (by decide +kernel) rfl, (fun h => by cases h), (fun h => by cases h)⟩
theorem foX6_193 : fldOk RX6 (193, 3, 8, 2, 8) := ⟨rfl, RX3, TX3, 9, rfl, by decide, lw_gm 95 (by decide +kernel) rfl, (fun h => by cases h), (fun h => by cases h)⟩
theorem foX6_196 : fldOk RX6 (196, 0, 2, 2, 2) := ⟨rfl, RX0, TX0, 5, rfl, by decide, lw_gm 132 (by decide +kernel) rfl, (fun h => by cases h), (fun h => by cases h)⟩
theorem foX6_199 : fldOk RX6 (199, 0, 3, 2, 3) := ⟨rfl, RX0, TX0, 5, rfl, by decide, lw_gm 135 (by decide +kernel) rfl, (fun h => by cases h), (fun h => by cases h)⟩
theorem foX6_205 : fldOk RX6 (205, 0, 4, 2, 4) := ⟨rfl, RX0, TX0, 5, rfl, by decide, lw_gm 138 (by decide +kernel) rfl, (fun h => by cases h), (fun h => by cases h)⟩
theorem foX6_208 : fldOk RX6 (208, 1, 5, 2, 5) := ⟨rfl, RX1, TX1, 10, rfl, by decide, lw_gm 170 (by decide +kernel) rfl, (fun h => by cases h), (fun h => by cases h)⟩
theorem foX6_211 : fldOk RX6 (211, 1, 6, 2, 6) := ⟨rfl, RX1, TX1, 10, rfl, by decide, lw_gm 172 (by decide +kernel) rfl, (fun h => by cases h), (fun h => by cases h)⟩
theorem foX6_214 : fldOk RX6 (214, 1, 7, 2, 7) := ⟨rfl, RX1, TX1, 10, rfl, by decide, lw_gm 175 (by decide +kernel) rfl, (fun h => by cases h), (fun h => by cases h)⟩
theorem foX6_217 : fldOk RX6 (217, 2, 11, 2, 11) := ⟨rfl, RX2, TX2, 12, rfl, by decide, lw_gm 240 (by decide +kernel) rfl, (fun h => by cases h), (fun h => by cases h)⟩
theorem foX6_220 : fldOk RX6 (220, 2, 10, 2, 10) := ⟨rfl, RX2, TX2, 12, rfl, by decide, lw_gm 237 (by decide +kernel) rfl, (fun h => by cases h), (fun h => by cases h)⟩
theorem foX6_223 : fldOk RX6 (223, 1, 9, 2, 9) := ⟨rfl, RX1, TX1, 10, rfl, by decide, lw_gm 178 (by decide +kernel) rfl, (fun h => by cases h), (fun h => by cases h)⟩
theorem foX6_235 : fldOk RX6 (235, 4, 0, 1, 0) := ⟨rfl, RX4, TX4, 12, rfl, by decide, lw_gm 303 (by decide +kernel) rfl, (fun h => by cases h), fun _ => ⟨rfl, rfl⟩⟩
theorem foX6_238 : fldOk RX6 (238, 4, 1, 2, 1) := ⟨rfl, RX4, TX4, 12, rfl, by decide, lw_gm 305 (by decide +kernel) rfl, (fun h => by cases h), (fun h => by cases h)⟩
theorem flX6_ok : ∀ f ∈ flX6, fldOk RX6 f := List.forall_mem_cons.mpr ⟨foX6_10, List.forall_mem_cons.mpr ⟨foX6_19, List.forall_mem_cons.mpr ⟨foX6_26, List.forall_mem_cons.mpr ⟨foX6_33, List.forall_mem_cons.mpr ⟨foX6_42, List.forall_mem_cons.mpr ⟨foX6_51, List.forall_mem_cons.mpr ⟨foX6_59, List.forall_mem_cons.mpr ⟨foX6_71, List.forall_mem_cons.mpr ⟨foX6_78, List.forall_mem_cons.mpr ⟨foX6_89, List.forall_mem_cons.mpr ⟨foX6_95, List.forall_mem_cons.mpr ⟨foX6_98, List.forall_mem_cons.mpr ⟨foX6_101, List.forall_mem_cons.mpr ⟨foX6_109, List.forall_mem_cons.mpr ⟨foX6_114, List.forall_mem_cons.mpr ⟨foX6_123, List.forall_mem_cons.mpr ⟨foX6_129, List.forall_mem_cons.mpr ⟨foX6_136, List.forall_mem_cons.mpr ⟨foX6_145, List.forall_mem_cons.mpr ⟨foX6_148, List.forall_mem_cons.mpr ⟨foX6_151, List.forall_mem_cons.mpr ⟨foX6_154, List.forall_mem_cons.mpr ⟨foX6_157, List.forall_mem_cons.mpr ⟨foX6_160, List.forall_mem_cons.mpr ⟨foX6_163, List.forall_mem_cons.mpr ⟨foX6_166, List.forall_mem_cons.mpr ⟨foX6_169, List.forall_mem_cons.mpr ⟨foX6_172, List.forall_mem_cons.mpr ⟨foX6_175, List.forall_mem_cons.mpr ⟨foX6_178, List.forall_mem_cons.mpr ⟨foX6_181, List.forall_mem_cons.mpr ⟨foX6_184, List.forall_mem_cons.mpr ⟨foX6_193, List.forall_mem_cons.mpr ⟨foX6_196, List.forall_mem_cons.mpr ⟨foX6_199, List.forall_mem_cons.mpr ⟨foX6_205, List.forall_mem_cons.mpr ⟨foX6_208, List.forall_mem_cons.mpr ⟨foX6_211, List.forall_mem_cons.mpr ⟨foX6_214, List.forall_mem_cons.mpr ⟨foX6_217, List.forall_mem_cons.mpr ⟨foX6_220, List.forall_mem_cons.mpr ⟨foX6_223, List.forall_mem_cons.mpr ⟨foX6_235, List.forall_mem_cons.mpr ⟨foX6_238, fun _ h => absurd h List.not_mem_nil⟩⟩⟩⟩⟩⟩⟩⟩⟩⟩⟩⟩⟩⟩⟩⟩⟩⟩⟩⟩⟩⟩⟩⟩⟩⟩⟩⟩⟩⟩⟩⟩⟩⟩⟩⟩⟩⟩⟩⟩⟩⟩⟩⟩
def flX7 : List (Nat × Nat × Nat × Nat × Int) := [(7, 7, 2, 2, 2), (13, 7, 3, 2, 3), (16, 7, 4, 2, 4), (20, 7, 5, 2, 5), (23, 7, 6, 2, 6), (26, 7, 7, 2, 7), (29, 7, 8, 2, 8), (32, 7, 9, 2, 9), (35, 7, 11, 2, 11), (38, 7, 12, 2, 12), (41, 7, 13, 0, 13), (45, 7, 17, 2, 17), (48, 7, 18, 2, 18), (51, 7, 19, 2, 19), (54, 7, 20, 2, 20), (57, 7, 21, 2, 21), (60, 7, 22, 2, 22), (63, 7, 23, 2, 23), (66, 7, 24, 2, 24), (69, 7, 25, 2, 25), (72, 7, 26, 2, 26), (75, 7, 27, 2, 27), (78, 7, 30, 2, 30), (81, 7, 32, 2, 32), (84, 7, 33, 2, 33), (87, 7, 34, 2, 34), (90, 7, 35, 2, 35), (93, 7, 1, 0, 1), (100, 7, 10, 0, 10), (110, 7, 16, 0, 16), (117, 7, 28, 0, 28), (124, 7, 14, 0, 14), (133, 7, 15, 1, 15), (144, 7, 0, 0, 0), (147, 7, 29, 0, 29), (203, 7, 31, 1, 31)]
theorem foX7_7 : fldOk RX7 (7, 7, 2, 2, 2) := ⟨rfl, RX7, TX7, 36, rfl, by decide, lw_gm 640 (by decide +kernel) rfl, (fun h => by cases h), (fun h => by cases h)⟩
theorem foX7_13 : fldOk RX7 (13, 7, 3, 2, 3) := ⟨rfl, RX7, TX7, 36, rfl, by decide, lw_gm 641 (by decide +kernel) rfl, (fun h => by cases h), (fun h => by cases h)⟩
theorem foX7_16 : fldOk RX7 (16, 7, 4, 2, 4) := ⟨rfl, RX7, TX7, 36, rfl, by decide, lw_gm 642 (by decide +kernel) rfl, (fun h => by cases h), (fun h => by cases h)⟩
theorem foX7_20 : fldOk RX7 (20, 7, 5, 2, 5) := ⟨rfl, RX7, TX7, 36, rfl, by decide, lw_gm 643 (by decide +kernel) rfl, (fun h => by cases h), (fun h => by cases h)⟩
theorem foX7_23 : fldOk RX7 (23, 7, 6, 2, 6) := ⟨rfl, RX7, TX7, 36, rfl, by decide, lw_gm 644 (by decide +kernel) rfl, (fun h => by cases h), (fun h => by cases h)⟩
theorem foX7_26 : fldOk RX7 (26, 7, 7, 2, 7) := ⟨rfl, RX7, TX7, 36, rfl, by decide, lw_gm 645 (by decide +kernel) rfl, (fun h => by cases h), (fun h => by cases h)⟩
theorem foX7_29 : fldOk RX7 (29, 7, 8, 2, 8) := ⟨rfl, RX7, TX7, 36, rfl, by decide, lw_gm 646 (by decide +kernel) rfl, (fun h => by cases h), (fun h => by cases h)⟩
theorem foX7_32 : fldOk RX7 (32, 7, 9, 2, 9) := ⟨rfl, RX7, TX7, 36, rfl, by decide, lw_gm 647 (by decide +kernel) rfl, (fun h => by cases h), (fun h => by cases h)⟩
theorem foX7_35 : fldOk RX7 (35, 7, 11, 2, 11) := ⟨rfl, RX7, TX7, 36, rfl, by decide, lw_gm 649 (by decide +kernel) rfl, (fun h => by cases h), (fun h => by cases h)⟩
theorem foX7_38 : fldOk RX7 (38, 7, 12, 2, 12) := ⟨rfl, RX7, TX7, 36, rfl, by decide, lw_gm 650 (by decide +kernel) rfl, (fun h => by cases h), (fun h => by cases h)⟩
theorem foX7_41 : fldOk RX7 (41, 7, 13, 0, 13) := ⟨rfl, RX7, TX7, 36, rfl, by decide, lw_gm 651 (by decide +kernel) rfl, fun _ => ⟨rfl, rfl⟩, (fun h => by cases h)⟩
theorem foX7_45 : fldOk RX7 (45, 7, 17, 2, 17) := ⟨rfl, RX7, TX7, 36, rfl, by decide, lw_gm 655 (by decide +kernel) rfl, (fun h => by cases h), (fun h => by cases h)⟩
theorem foX7_48 : fldOk RX7 (48, 7, 18, 2, 18) := ⟨rfl, RX7, TX7, 36, rfl, by decide, lw_gm 656 (by decide +kernel) rfl, (fun h => by cases h), (fun h => by cases h)⟩
theorem foX7_51 : fldOk RX7 (51, 7, 19, 2, 19) := ⟨rfl, RX7, TX7, 36, rfl, by decide, lw_gm 657 (by decide +kernel) rfl, (fun h => by cases h), (fun h => by cases h)⟩
theorem foX7_54 : fldOk RX7 (54, 7, 20, 2, 20) := ⟨rfl, RX7, TX7, 36, rfl, by decide, lw_gm 658 (by decide +kernel) rfl, (fun h => by cases h), (fun h => by cases h)⟩
theorem foX7_57 : fldOk RX7 (57, 7, 21, 2, 21) := ⟨rfl, RX7, TX7, 36, rfl, by decide, lw_gm 659 (by decide +kernel) rfl, (fun h => by cases h), (fun h => by cases h)⟩
theorem foX7_60 : fldOk RX7 (60, 7, 22, 2, 22) := ⟨rfl, RX7, TX7, 36, rfl, by decide, lw_gm 660 (by decide +kernel) rfl, (fun h => by cases h), (fun h => by cases h)⟩
theorem foX7_63 : fldOk RX7 (63, 7, 23, 2, 23) := ⟨rfl, RX7, TX7, 36, rfl, by decide, lw_gm 661 (by decide +kernel) rfl, (fun h => by cases h), (fun h => by cases h)⟩
theorem foX7_66 : fldOk RX7 (66, 7, 24, 2, 24) := ⟨rfl, RX7, TX7, 36, rfl, by decide, lw_gm 662 (by decide +kernel) rfl, (fun h => by cases h), (fun h => by cases h)⟩
theorem foX7_69 : fldOk RX7 (69, 7, 25, 2, 25) := ⟨rfl, RX7, TX7, 36, rfl, by decide, lw_gm 663 (by decide +kernel) rfl, (fun h => by cases h), (fun h => by cases h)⟩
theorem foX7_72 : fldOk RX7 (72, 7, 26, 2, 26) := ⟨rfl, RX7, TX7, 36, rfl, by decide, lw_gm 664 (by decide +kernel) rfl, (fun h => by cases h), (fun h => by cases h)⟩
theorem foX7_75 : fldOk RX7 (75, 7, 27, 2, 27) := ⟨rfl, RX7, TX7, 36, rfl, by decide, lw_gm 665 (by decide +kernel) rfl, (fun h => by cases h), (fun h => by cases h)⟩
theorem foX7_78 : fldOk RX7 (78, 7, 30, 2, 30) := ⟨rfl, RX7, TX7, 36, rfl, by decide, lw_gm 668 (by decide +kernel) rfl, (fun h => by cases h), (fun h => by cases h)⟩
theorem foX7_81 : fldOk RX7 (81, 7, 32, 2, 32) := ⟨rfl, RX7, TX7, 36, rfl, by decide, lw_gm 670 (by decide +kernel) rfl, (fun h => by cases h), (fun h => by cases h)⟩
theorem foX7_84 : fldOk RX7 (84, 7, 33, 2, 33) := ⟨rfl, RX7, TX7, 36, rfl, by decide, lw_gm 671 (by decide +kernel) rfl, (fun h => by cases h), (fun h => by cases h)⟩
theorem foX7_87 : fldOk RX7 (87, 7, 34, 2, 34) := ⟨rfl, RX7, TX7, 36, rfl, by decide, lw_gm 672 (by decide +kernel) rfl, (fun h => by cases h), (fun h => by cases h)⟩
theorem foX7_90 : fldOk RX7 (90, 7, 35, 2, 35) := ⟨rfl, RX7, TX7, 36, rfl, by decide, lw_gm 673 (by decide +kernel) rfl, (fun h => by cases h), (fun h => by cases h)⟩
theorem foX7_93 : fldOk RX7 (93, 7, 1, 0, 1) := ⟨rfl, RX7, TX7, 36, rfl, by decide, lw_gm 639 (by decide +kernel) rfl, fun _ => ⟨rfl, rfl⟩, (fun h => by cases h)⟩
theorem foX7_100 : fldOk RX7 (100, 7, 10, 0, 10) := ⟨rfl, RX7, TX7, 36, rfl, by decide, lw_gm 648 (by decide +kernel) rfl, fun _ => ⟨rfl, rfl⟩, (fun h => by cases h)⟩
theorem foX7_110 : fldOk RX7 (110, 7, 16, 0, 16) := ⟨rfl, RX7, TX7, 36, rfl, by decide, lw_gm 654 (by decide +kernel) rfl, fun _ => ⟨rfl, rfl⟩, (fun h => by cases h)⟩
theorem foX7_117 : fldOk RX7 (117, 7, 28, 0, 28) := ⟨rfl, RX7, TX7, 36, rfl, by decide, lw_gm 666 (by decide +kernel) rfl, fun _ => ⟨rfl, rfl⟩, (fun h => by cases h)⟩
theorem foX7_124 : fldOk RX7 (124, 7, 14, 0, 14) := ⟨rfl, RX7, TX7, 36, rfl, by decide, lw_gm 652 (by decide +kernel) rfl, fun _ => ⟨rfl, rfl⟩, (fun h => by cases h)⟩
theorem foX7_133 : fldOk RX7 (133, 7, 15, 1, 15) := ⟨rfl, RX7, TX7, 36, rfl, by decide, lw_gm 653 (by decide +kernel) rfl, (fun h => by cases h), fun _ => ⟨rfl, rfl⟩⟩
theorem foX7_144 : fldOk RX7 (144, 7, 0, 0, 0) := ⟨rfl, RX7, TX7, 36, rfl, by decide, lw_gm 638 (by decide +kernel) rfl, fun _ => ⟨rfl, rfl⟩, (fun h => by cases h)⟩
theorem foX7_147 : fldOk RX7 (147, 7, 29, 0, 29) := ⟨rfl, RX7, TX7, 36, rfl, by decide, lw_gm 667 (by decide +kernel) rfl, fun _ => ⟨rfl, rfl⟩, (fun h => by cases h)⟩
theorem foX7_203 : fldOk RX7 (203, 7, 31, 1, 31) := ⟨rfl, RX7, TX7, 36, rfl, by decide, lw_gm 669 (by decide +kernel) rfl, (fun h => by cases h), fun _ => ⟨rfl, rfl⟩⟩
theorem flX7_ok : ∀ f ∈ flX7, fldOk RX7 f := List.forall_mem_cons.mpr ⟨foX7_7, List.forall_mem_cons.mpr ⟨foX7_13, List.forall_mem_cons.mpr ⟨foX7_16, List.forall_mem_cons.mpr ⟨foX7_20, List.forall_mem_cons.mpr ⟨foX7_23, List.forall_mem_cons.mpr ⟨foX7_26, List.forall_mem_cons.mpr ⟨foX7_29, List.forall_mem_cons.mpr ⟨foX7_32, List.forall_mem_cons.mpr ⟨foX7_35, List.forall_mem_cons.mpr ⟨foX7_38, List.forall_mem_cons.mpr ⟨foX7_41, List.forall_mem_cons.mpr ⟨foX7_45, List.forall_mem_cons.mpr ⟨foX7_48, List.forall_mem_cons.mpr ⟨foX7_51, List.forall_mem_cons.mpr ⟨foX7_54, List.forall_mem_cons.mpr ⟨foX7_57, List.forall_mem_cons.mpr ⟨foX7_60, List.forall_mem_cons.mpr ⟨foX7_63, List.forall_mem_cons.mpr ⟨foX7_66, List.forall_mem_cons.mpr ⟨foX7_69, List.forall_mem_cons.mpr ⟨foX7_72, List.forall_mem_cons.mpr ⟨foX7_75, List.forall_mem_cons.mpr ⟨foX7_78, List.forall_mem_cons.mpr ⟨foX7_81, List.forall_mem_cons.mpr ⟨foX7_84, List.forall_mem_cons.mpr ⟨foX7_87, List.forall_mem_cons.mpr ⟨foX7_90, List.forall_mem_cons.mpr ⟨foX7_93, List.forall_mem_cons.mpr ⟨foX7_100, List.forall_mem_cons.mpr ⟨foX7_110, List.forall_mem_cons.mpr ⟨foX7_117, List.forall_mem_cons.mpr ⟨foX7_124, List.forall_mem_cons.mpr ⟨foX7_133, List.forall_mem_cons.mpr ⟨foX7_144, List.forall_mem_cons.mpr ⟨foX7_147, List.forall_mem_cons.mpr ⟨foX7_203, fun _ h => absurd h List.not_mem_nil⟩⟩⟩⟩⟩⟩⟩⟩⟩⟩⟩⟩⟩⟩⟩⟩⟩⟩⟩⟩⟩⟩⟩⟩⟩⟩⟩⟩⟩⟩⟩⟩⟩⟩⟩⟩
def flJ9 : List (Nat × Nat × Nat × Nat × Int) := []
theorem flJ9_ok : ∀ f ∈ flJ9, fldOk RJ9 f := fun _ h => absurd h List.not_mem_nil
end
section
/-! methods: rows, and that they are the code: by program -/
def tX6_link : List Row := [(0, 1, 0, .iload_n 1), (1, 2, 0, .iconst 1), (2, 4, 0, .bipush 8), (4, 7, 0, .invokestatic 55), (7, 10, 20, .ifCond .eq 13), (10, 11, 0, .iload_n 2), (11, 12, 0, .iconst 1), (12, 14, 0, .bipush 30), (14, 17, 0, .invokestatic 55), (17, 20, 23, .ifCond .ne 6), (20, 22, 0, .bipush (-2)), (22, 23, 0, .ireturn), (23, 24, 0, .aload_n 0), (24, 27, 0, .getfield 10), (27, 30, 0, .getfield 59), (30, 31, 0, .iconst 4), (31, 34, 37, .if_icmp .lt 6), (34, 36, 0, .bipush (-4)), (36, 37, 0, .ireturn), (37, 38, 0, .aload_n 0), (38, 41, 0, .getfield 10), (41, 42, 0, .iload_n 1), (42, 43, 0, .iload_n 2), (43, 46, 0, .invokevirtual 63), (46, 47, 0, .istore_n 3), (47, 48, 0, .aload_n 0), (48, 51, 0, .getfield 42), (51, 52, 0, .iload_n 3), (52, 55, 0, .invokevirtual 67), (55, 56, 0, .pop), (56, 57, 0, .iload_n 3), (57, 58, 0, .ireturn)]
def mX6_link : Mt := (yX6_link, cX6_link, 4, (some .int), flX6, tX6_link)
theorem tX6_link_ok : ∀ e ∈ tX6_link, rowOk cX6_link e := by decide +kernel
theorem mX6_link_ok : mtOk mX6_link := ⟨by decide +kernel, tX6_link_ok, flX6_ok, by decide, lw_gm 363 (by decide +kernel) rfl⟩
def tX6_isWithin : List Row := [(0, 1, 0, .iload_n 0), (1, 2, 0, .iload_n 1), (2, 5, 14, .if_icmp .lt 12), (5, 6, 0, .iload_n 0), (6, 7, 0, .iload_n 2), (7, 10, 14, .if_icmp .gt 7), (10, 11, 0, .iconst 1), (11, 14, 15, .goto 4), (14, 15, 0, .iconst 0), (15, 16, 0, .ireturn)]
def mX6_isWithin : Mt := (yX6_isWithin, cX6_isWithin, 3, (some .boolean), flX6, tX6_isWithin)
theorem tX6_isWithin_ok : ∀ e ∈ tX6_isWithin, rowOk cX6_isWithin e := by decide +kernel
theorem mX6_isWithin_ok : mtOk mX6_isWithin := ⟨by decide +kernel, tX6_isWithin_ok, flX6_ok, by decide, lw_gm 366 (by decide +kernel) rfl⟩
def tX3_add : List Row := [(0, 1, 0, .aload_n 0), (1, 4, 0, .getfield 39), (4, 5, 0, .istore_n 3), (5, 6, 0, .aload_n 0), (6, 9, 0, .getfield 9), (9, 10, 0, .iload_n 3), (10, 11, 0, .iload_n 1), (11, 12, 0, .iastore), (12, 13, 0, .aload_n 0), (13, 16, 0, .getfield 15), (16, 17, 0, .iload_n 3), (17, 18, 0, .iload_n 2), (18, 19, 0, .iastore), (19, 20, 0, .aload_n 0), (20, 23, 0, .getfield 18), (23, 24, 0, .iload_n 3), (24, 25, 0, .iconst 1), (25, 26, 0, .bastore), (26, 27, 0, .aload_n 0), (27, 28, 0, .dup), (28, 31, 0, .getfield 39), (31, 32, 0, .iconst 1), (32, 33, 0, .iadd), (33, 36, 0, .putfield 39), (36, 37, 0, .iload_n 3), (37, 38, 0, .ireturn)]
def mX3_add : Mt := (yX3_add, cX3_add, 4, (some .int), flX3, tX3_add)
theorem tX3_add_ok : ∀ e ∈ tX3_add, rowOk cX3_add e := by decide +kernel
theorem mX3_add_ok : mtOk mX3_add := ⟨by decide +kernel, tX3_add_ok, flX3_ok, by decide, lw_gm 370 (by decide +kernel) rfl⟩
def tX5_takeIn : List Row := [(0, 1, 0, .iconst 0), (1, 2, 0, .istore_n 2), (2, 3, 0, .iconst 0), (3, 4, 0, .istore_n 3), (4, 5, 0, .iload_n 3), (5, 7, 0, .bipush 8), (7, 10, 52, .if_icmp .ge 45), (10, 11, 0, .aload_n 0), (11, 14, 0, .getfield 19), (14, 17, 0, .getfield 59), (17, 18, 0, .iload_n 3), (18, 19, 0, .iaload), (19, 21, 0, .bipush (-6)), (21, 24, 27, .if_icmp .eq 6), (24, 27, 46, .goto 22), (27, 28, 0, .aload_n 0), (28, 31, 0, .getfield 19), (31, 34, 0, .getfield 59), (34, 35, 0, .iload_n 3), (35, 36, 0, .iload_n 1), (36, 37, 0, .iastore), (37, 38, 0, .aload_n 0), (38, 39, 0, .iload_n 3), (39, 42, 0, .invokevirtual 183), (42, 43, 0, .pop), (43, 46, 0, .iinc 2 1), (46, 49, 0, .iinc 3 1), (49, 52, 4, .goto (-45)), (52, 53, 0, .iload_n 2), (53, 54, 0, .ireturn)]
def mX5_takeIn : Mt := (yX5_takeIn, cX5_takeIn, 4, (some .int), flX5, tX5_takeIn)
theorem tX5_takeIn_ok : ∀ e ∈ tX5_takeIn, rowOk cX5_takeIn e := by decide +kernel
theorem mX5_takeIn_ok : mtOk mX5_takeIn := ⟨by decide +kernel, tX5_takeIn_ok, flX5_ok, by decide, lw_gm 374 (by decide +kernel) rfl⟩
def tX5_release : List Row := [(0, 1, 0, .aload_n 0), (1, 4, 0, .getfield 19), (4, 7, 0, .getfield 59), (7, 8, 0, .iload_n 1), (8, 9, 0, .iaload), (9, 10, 0, .istore_n 2), (10, 11, 0, .aload_n 0), (11, 14, 0, .getfield 19), (14, 17, 0, .getfield 62), (17, 18, 0, .iload_n 1), (18, 19, 0, .iaload), (19, 20, 0, .istore_n 3), (20, 21, 0, .aload_n 0), (21, 24, 0, .getfield 19), (24, 27, 0, .getfield 54), (27, 28, 0, .iload_n 1), (28, 29, 0, .iconst 0), (29, 30, 0, .bastore), (30, 31, 0, .iload_n 2), (31, 33, 0, .bipush (-6)), (33, 36, 40, .if_icmp .eq 7), (36, 37, 0, .iload_n 3), (37, 40, 42, .ifCond .ne 5), (40, 41, 0, .iload_n 3), (41, 42, 0, .ireturn), (42, 43, 0, .iconst 0), (43, 45, 0, .istore 4), (45, 47, 0, .iload 4), (47, 48, 0, .aload_n 0), (48, 51, 0, .getfield 27), (51, 54, 0, .getfield 31), (54, 57, 97, .if_icmp .ge 43), (57, 58, 0, .aload_n 0), (58, 61, 0, .getfield 27), (61, 64, 0, .getfield 152), (64, 66, 0, .iload 4), (66, 67, 0, .iaload), (67, 70, 91, .ifCond .ne 24), (70, 71, 0, .aload_n 0), (71, 74, 0, .getfield 27), (74, 77, 0, .getfield 177), (77, 79, 0, .iload 4), (79, 80, 0, .iaload), (80, 81, 0, .iload_n 1), (81, 84, 91, .if_icmp .ne 10), (84, 85, 0, .aload_n 0), (85, 87, 0, .iload 4), (87, 88, 0, .iload_n 2), (88, 91, 0, .invokevirtual 65), (91, 94, 0, .iinc 4 1), (94, 97, 45, .goto (-49)), (97, 98, 0, .aload_n 0), (98, 101, 0, .getfield 19), (101, 104, 0, .getfield 62), (104, 105, 0, .iload_n 1), (105, 106, 0, .iconst 0), (106, 107, 0, .iastore), (107, 108, 0, .iload_n 3), (108, 109, 0, .ireturn)]
def mX5_release : Mt := (yX5_release, cX5_release, 5, (some .int), flX5, tX5_release)
theorem tX5_release_ok : ∀ e ∈ tX5_release, rowOk cX5_release e := by decide +kernel
theorem mX5_release_ok : mtOk mX5_release := ⟨by decide +kernel, tX5_release_ok, flX5_ok, by decide, lw_gm 378 (by decide +kernel) rfl⟩
def tX5_enqueue : List Row := [(0, 1, 0, .aload_n 0), (1, 4, 0, .getfield 15), (4, 7, 0, .getfield 69), (7, 8, 0, .iload_n 2), (8, 9, 0, .iaload), (9, 10, 0, .istore_n 3), (10, 11, 0, .iload_n 3), (11, 14, 0, .sipush 400), (14, 17, 18, .if_icmp .lt 4), (17, 18, 0, .return_), (18, 19, 0, .aload_n 0), (19, 22, 0, .getfield 15), (22, 25, 0, .getfield 74), (25, 26, 0, .iload_n 2), (26, 27, 0, .aaload), (27, 28, 0, .iload_n 3), (28, 29, 0, .iload_n 1), (29, 30, 0, .iastore), (30, 31, 0, .aload_n 0), (31, 34, 0, .getfield 15), (34, 37, 0, .getfield 69), (37, 38, 0, .iload_n 2), (38, 39, 0, .iload_n 3), (39, 40, 0, .iconst 1), (40, 41, 0, .iadd), (41, 42, 0, .iastore), (42, 43, 0, .aload_n 0), (43, 46, 0, .getfield 27), (46, 49, 0, .getfield 78), (49, 50, 0, .iload_n 1), (50, 51, 0, .iload_n 2), (51, 52, 0, .iastore), (52, 53, 0, .aload_n 0), (53, 56, 0, .getfield 27), (56, 57, 0, .iload_n 1), (57, 58, 0, .iconst 1), (58, 61, 0, .invokevirtual 81), (61, 62, 0, .return_)]
def mX5_enqueue : Mt := (yX5_enqueue, cX5_enqueue, 4, none, flX5, tX5_enqueue)
theorem tX5_enqueue_ok : ∀ e ∈ tX5_enqueue, rowOk cX5_enqueue e := by decide +kernel
theorem mX5_enqueue_ok : mtOk mX5_enqueue := ⟨by decide +kernel, tX5_enqueue_ok, flX5_ok, by decide, lw_gm 382 (by decide +kernel) rfl⟩
def tX2_turn : List Row := [(0, 1, 0, .aload_n 0), (1, 4, 0, .getfield 42), (4, 5, 0, .aload_n 0), (5, 8, 0, .getfield 21), (8, 9, 0, .iload_n 1), (9, 10, 0, .iaload), (10, 11, 0, .dup2), (11, 12, 0, .iaload), (12, 13, 0, .iconst 1), (13, 14, 0, .isub), (14, 15, 0, .iastore), (15, 16, 0, .aload_n 0), (16, 19, 0, .getfield 42), (19, 20, 0, .iload_n 2), (20, 21, 0, .dup2), (21, 22, 0, .iaload), (22, 23, 0, .iconst 1), (23, 24, 0, .iadd), (24, 25, 0, .iastore), (25, 26, 0, .aload_n 0), (26, 29, 0, .getfield 21), (29, 30, 0, .iload_n 1), (30, 31, 0, .iload_n 2), (31, 32, 0, .iastore), (32, 33, 0, .return_)]
def mX2_turn : Mt := (yX2_turn, cX2_turn, 3, none, flX2, tX2_turn)
theorem tX2_turn_ok : ∀ e ∈ tX2_turn, rowOk cX2_turn e := by decide +kernel
theorem mX2_turn_ok : mtOk mX2_turn := ⟨by decide +kernel, tX2_turn_ok, flX2_ok, by decide, lw_gm 386 (by decide +kernel) rfl⟩
def tX6_flow : List Row := [(0, 1, 0, .iload_n 1), (1, 2, 0, .iconst 0), (2, 4, 0, .bipush 100), (4, 7, 0, .invokestatic 55), (7, 10, 13, .ifCond .ne 6), (10, 12, 0, .bipush (-2)), (12, 13, 0, .ireturn), (13, 14, 0, .aload_n 0), (14, 17, 0, .getfield 26), (17, 20, 0, .getfield 71), (20, 22, 0, .bipush 16), (22, 25, 28, .if_icmp .lt 6), (25, 27, 0, .bipush (-4)), (27, 28, 0, .ireturn), (28, 29, 0, .aload_n 0), (29, 32, 0, .getfield 26), (32, 33, 0, .iload_n 1), (33, 36, 0, .invokevirtual 72), (36, 37, 0, .ireturn)]
def mX6_flow : Mt := (yX6_flow, cX6_flow, 2, (some .int), flX6, tX6_flow)
theorem tX6_flow_ok : ∀ e ∈ tX6_flow, rowOk cX6_flow e := by decide +kernel
theorem mX6_flow_ok : mtOk mX6_flow := ⟨by decide +kernel, tX6_flow_ok, flX6_ok, by decide, lw_gm 390 (by decide +kernel) rfl⟩
def tX1_add : List Row := [(0, 1, 0, .aload_n 0), (1, 4, 0, .getfield 41), (4, 5, 0, .istore_n 2), (5, 6, 0, .aload_n 0), (6, 9, 0, .getfield 18), (9, 10, 0, .iload_n 2), (10, 11, 0, .iload_n 1), (11, 12, 0, .iastore), (12, 13, 0, .aload_n 0), (13, 16, 0, .getfield 22), (16, 17, 0, .iload_n 2), (17, 18, 0, .iconst (-1)), (18, 19, 0, .iastore), (19, 20, 0, .aload_n 0), (20, 23, 0, .getfield 34), (23, 24, 0, .iload_n 2), (24, 26, 0, .bipush (-6)), (26, 27, 0, .iastore), (27, 28, 0, .aload_n 0), (28, 29, 0, .dup), (29, 32, 0, .getfield 41), (32, 33, 0, .iconst 1), (33, 34, 0, .iadd), (34, 37, 0, .putfield 41), (37, 38, 0, .iload_n 2), (38, 39, 0, .ireturn)]
def mX1_add : Mt := (yX1_add, cX1_add, 3, (some .int), flX1, tX1_add)
theorem tX1_add_ok : ∀ e ∈ tX1_add, rowOk cX1_add e := by decide +kernel
theorem mX1_add_ok : mtOk mX1_add := ⟨by decide +kernel, tX1_add_ok, flX1_ok, by decide, lw_gm 394 (by decide +kernel) rfl⟩
def tX6_rate : List Row := [(0, 1, 0, .iload_n 1), (1, 2, 0, .aload_n 0), (2, 5, 0, .getfield 26), (5, 8, 0, .getfield 71), (8, 11, 0, .invokestatic 74), (11, 14, 16, .ifCond .ne 5), (14, 15, 0, .iconst (-1)), (15, 16, 0, .ireturn), (16, 17, 0, .iload_n 2), (17, 18, 0, .iconst 0), (18, 20, 0, .bipush 100), (20, 23, 0, .invokestatic 55), (23, 26, 29, .ifCond .ne 6), (26, 28, 0, .bipush (-2)), (28, 29, 0, .ireturn), (29, 30, 0, .aload_n 0), (30, 33, 0, .getfield 26), (33, 36, 0, .getfield 78), (36, 37, 0, .iload_n 1), (37, 38, 0, .iaload), (38, 39, 0, .istore_n 3), (39, 40, 0, .aload_n 0), (40, 43, 0, .getfield 26), (43, 46, 0, .getfield 78), (46, 47, 0, .iload_n 1), (47, 48, 0, .iload_n 2), (48, 49, 0, .iastore), (49, 50, 0, .iload_n 3), (50, 51, 0, .ireturn)]
def mX6_rate : Mt := (yX6_rate, cX6_rate, 4, (some .int), flX6, tX6_rate)
theorem tX6_rate_ok : ∀ e ∈ tX6_rate, rowOk cX6_rate e := by decide +kernel
theorem mX6_rate_ok : mtOk mX6_rate := ⟨by decide +kernel, tX6_rate_ok, flX6_ok, by decide, lw_gm 398 (by decide +kernel) rfl⟩
def tX6_isBelow : List Row := [(0, 1, 0, .iload_n 0), (1, 4, 13, .ifCond .lt 12), (4, 5, 0, .iload_n 0), (5, 6, 0, .iload_n 1), (6, 9, 13, .if_icmp .ge 7), (9, 10, 0, .iconst 1), (10, 13, 14, .goto 4), (13, 14, 0, .iconst 0), (14, 15, 0, .ireturn)]
def mX6_isBelow : Mt := (yX6_isBelow, cX6_isBelow, 2, (some .boolean), flX6, tX6_isBelow)
theorem tX6_isBelow_ok : ∀ e ∈ tX6_isBelow, rowOk cX6_isBelow e := by decide +kernel
theorem mX6_isBelow_ok : mtOk mX6_isBelow := ⟨by decide +kernel, tX6_isBelow_ok, flX6_ok, by decide, lw_gm 401 (by decide +kernel) rfl⟩
def tX6_pin : List Row := [(0, 1, 0, .iload_n 1), (1, 2, 0, .aload_n 0), (2, 5, 0, .getfield 26), (5, 8, 0, .getfield 71), (8, 11, 0, .invokestatic 74), (11, 14, 16, .ifCond .ne 5), (14, 15, 0, .iconst (-1)), (15, 16, 0, .ireturn), (16, 17, 0, .iload_n 2), (17, 18, 0, .iconst (-1)), (18, 21, 33, .if_icmp .eq 15), (21, 22, 0, .iload_n 2), (22, 24, 0, .bipush 8), (24, 27, 0, .invokestatic 74), (27, 30, 33, .ifCond .ne 6), (30, 32, 0, .bipush (-2)), (32, 33, 0, .ireturn), (33, 34, 0, .aload_n 0), (34, 37, 0, .getfield 26), (37, 38, 0, .iload_n 1), (38, 41, 0, .invokevirtual 82), (41, 44, 47, .ifCond .eq 6), (44, 46, 0, .bipush (-3)), (46, 47, 0, .ireturn), (47, 48, 0, .aload_n 0), (48, 51, 0, .getfield 26), (51, 52, 0, .iload_n 1), (52, 55, 0, .invokevirtual 86), (55, 56, 0, .istore_n 3), (56, 57, 0, .aload_n 0), (57, 60, 0, .getfield 26), (60, 63, 0, .getfield 89), (63, 64, 0, .iload_n 1), (64, 65, 0, .iload_n 2), (65, 66, 0, .iastore), (66, 67, 0, .iload_n 3), (67, 68, 0, .ireturn)]
def mX6_pin : Mt := (yX6_pin, cX6_pin, 4, (some .int), flX6, tX6_pin)
theorem tX6_pin_ok : ∀ e ∈ tX6_pin, rowOk cX6_pin e := by decide +kernel
theorem mX6_pin_ok : mtOk mX6_pin := ⟨by decide +kernel, tX6_pin_ok, flX6_ok, by decide, lw_gm 405 (by decide +kernel) rfl⟩
def tX1_hasUnended : List Row := [(0, 1, 0, .aload_n 0), (1, 4, 0, .getfield 28), (4, 5, 0, .iload_n 1), (5, 6, 0, .iaload), (6, 7, 0, .aload_n 0), (7, 10, 0, .getfield 31), (10, 11, 0, .iload_n 1), (11, 12, 0, .iaload), (12, 13, 0, .iadd), (13, 14, 0, .aload_n 0), (14, 17, 0, .getfield 25), (17, 18, 0, .iload_n 1), (18, 19, 0, .iaload), (19, 22, 26, .if_icmp .ge 7), (22, 23, 0, .iconst 1), (23, 26, 27, .goto 4), (26, 27, 0, .iconst 0), (27, 28, 0, .ireturn)]
def mX1_hasUnended : Mt := (yX1_hasUnended, cX1_hasUnended, 2, (some .boolean), flX1, tX1_hasUnended)
theorem tX1_hasUnended_ok : ∀ e ∈ tX1_hasUnended, rowOk cX1_hasUnended e := by decide +kernel
theorem mX1_hasUnended_ok : mtOk mX1_hasUnended := ⟨by decide +kernel, tX1_hasUnended_ok, flX1_ok, by decide, lw_gm 409 (by decide +kernel) rfl⟩
def tX1_bucketOf : List Row := [(0, 1, 0, .aload_n 0), (1, 4, 0, .getfield 22), (4, 5, 0, .iload_n 1), (5, 6, 0, .iaload), (6, 7, 0, .iconst (-1)), (7, 10, 19, .if_icmp .eq 12), (10, 11, 0, .aload_n 0), (11, 14, 0, .getfield 22), (14, 15, 0, .iload_n 1), (15, 16, 0, .iaload), (16, 19, 33, .goto 17), (19, 20, 0, .iload_n 1), (20, 21, 0, .aload_n 0), (21, 24, 0, .getfield 9), (24, 25, 0, .imul), (25, 26, 0, .aload_n 0), (26, 29, 0, .getfield 15), (29, 30, 0, .iadd), (30, 32, 0, .bipush 8), (32, 33, 0, .irem), (33, 34, 0, .ireturn)]
def mX1_bucketOf : Mt := (yX1_bucketOf, cX1_bucketOf, 2, (some .int), flX1, tX1_bucketOf)
theorem tX1_bucketOf_ok : ∀ e ∈ tX1_bucketOf, rowOk cX1_bucketOf e := by decide +kernel
theorem mX1_bucketOf_ok : mtOk mX1_bucketOf := ⟨by decide +kernel, tX1_bucketOf_ok, flX1_ok, by decide, lw_gm 413 (by decide +kernel) rfl⟩
def tX6_hash : List Row := [(0, 1, 0, .iload_n 1), (1, 2, 0, .iconst 0), (2, 4, 0, .bipush 7), (4, 7, 0, .invokestatic 55), (7, 10, 20, .ifCond .eq 13), (10, 11, 0, .iload_n 2), (11, 12, 0, .iconst 0), (12, 14, 0, .bipush 7), (14, 17, 0, .invokestatic 55), (17, 20, 23, .ifCond .ne 6), (20, 22, 0, .bipush (-2)), (22, 23, 0, .ireturn), (23, 24, 0, .aload_n 0), (24, 27, 0, .getfield 33), (27, 30, 0, .invokevirtual 92), (30, 33, 36, .ifCond .eq 6), (33, 35, 0, .bipush (-3)), (35, 36, 0, .ireturn), (36, 37, 0, .aload_n 0), (37, 40, 0, .getfield 26), (40, 41, 0, .iload_n 1), (41, 44, 0, .putfield 95), (44, 45, 0, .aload_n 0), (45, 48, 0, .getfield 26), (48, 49, 0, .iload_n 2), (49, 52, 0, .putfield 98), (52, 53, 0, .iconst 1), (53, 54, 0, .ireturn)]
def mX6_hash : Mt := (yX6_hash, cX6_hash, 3, (some .int), flX6, tX6_hash)
theorem tX6_hash_ok : ∀ e ∈ tX6_hash, rowOk cX6_hash e := by decide +kernel
theorem mX6_hash_ok : mtOk mX6_hash := ⟨by decide +kernel, tX6_hash_ok, flX6_ok, by decide, lw_gm 417 (by decide +kernel) rfl⟩
def tX2_hasUnended : List Row := [(0, 1, 0, .aload_n 0), (1, 4, 0, .getfield 42), (4, 5, 0, .iconst 4), (5, 6, 0, .iaload), (6, 7, 0, .aload_n 0), (7, 10, 0, .getfield 42), (10, 11, 0, .iconst 5), (11, 12, 0, .iaload), (12, 13, 0, .iadd), (13, 14, 0, .aload_n 0), (14, 17, 0, .getfield 45), (17, 20, 24, .if_icmp .ge 7), (20, 21, 0, .iconst 1), (21, 24, 25, .goto 4), (24, 25, 0, .iconst 0), (25, 26, 0, .ireturn)]
def mX2_hasUnended : Mt := (yX2_hasUnended, cX2_hasUnended, 1, (some .boolean), flX2, tX2_hasUnended)
theorem tX2_hasUnended_ok : ∀ e ∈ tX2_hasUnended, rowOk cX2_hasUnended e := by decide +kernel
theorem mX2_hasUnended_ok : mtOk mX2_hasUnended := ⟨by decide +kernel, tX2_hasUnended_ok, flX2_ok, by decide, lw_gm 421 (by decide +kernel) rfl⟩
def tX6_numbers : List Row := [(0, 1, 0, .aload_n 0), (1, 4, 0, .getfield 33), (4, 7, 0, .invokevirtual 92), (7, 10, 13, .ifCond .eq 6), (10, 12, 0, .bipush (-3)), (12, 13, 0, .ireturn), (13, 14, 0, .aload_n 0), (14, 17, 0, .getfield 42), (17, 20, 0, .getfield 101), (20, 23, 0, .invokestatic 105), (23, 24, 0, .istore_n 2), (24, 25, 0, .aload_n 0), (25, 28, 0, .getfield 42), (28, 29, 0, .iload_n 1), (29, 32, 0, .putfield 101), (32, 33, 0, .iload_n 2), (33, 34, 0, .ireturn)]
def mX6_numbers : Mt := (yX6_numbers, cX6_numbers, 3, (some .int), flX6, tX6_numbers)
theorem tX6_numbers_ok : ∀ e ∈ tX6_numbers, rowOk cX6_numbers e := by decide +kernel
theorem mX6_numbers_ok : mtOk mX6_numbers := ⟨by decide +kernel, tX6_numbers_ok, flX6_ok, by decide, lw_gm 425 (by decide +kernel) rfl⟩
def tX6_oneIf : List Row := [(0, 1, 0, .iload_n 0), (1, 4, 8, .ifCond .eq 7), (4, 5, 0, .iconst 1), (5, 8, 9, .goto 4), (8, 9, 0, .iconst 0), (9, 10, 0, .ireturn)]
def mX6_oneIf : Mt := (yX6_oneIf, cX6_oneIf, 1, (some .int), flX6, tX6_oneIf)
theorem tX6_oneIf_ok : ∀ e ∈ tX6_oneIf, rowOk cX6_oneIf e := by decide +kernel
theorem mX6_oneIf_ok : mtOk mX6_oneIf := ⟨by decide +kernel, tX6_oneIf_ok, flX6_ok, by decide, lw_gm 428 (by decide +kernel) rfl⟩
def tX6_send : List Row := [(0, 1, 0, .iload_n 1), (1, 2, 0, .aload_n 0), (2, 5, 0, .getfield 26), (5, 8, 0, .getfield 71), (8, 11, 0, .invokestatic 74), (11, 14, 16, .ifCond .ne 5), (14, 15, 0, .iconst (-1)), (15, 16, 0, .ireturn), (16, 17, 0, .iload_n 2), (17, 18, 0, .iconst 1), (18, 20, 0, .bipush 50), (20, 23, 0, .invokestatic 55), (23, 26, 29, .ifCond .ne 6), (26, 28, 0, .bipush (-2)), (28, 29, 0, .ireturn), (29, 30, 0, .aload_n 0), (30, 33, 0, .getfield 33), (33, 36, 0, .getfield 109), (36, 37, 0, .iload_n 2), (37, 38, 0, .iadd), (38, 41, 0, .sipush 400), (41, 44, 47, .if_icmp .le 6), (44, 46, 0, .bipush (-4)), (46, 47, 0, .ireturn), (47, 48, 0, .iconst 0), (48, 49, 0, .istore_n 3), (49, 50, 0, .iload_n 3), (50, 51, 0, .iload_n 2), (51, 54, 68, .if_icmp .ge 17), (54, 55, 0, .aload_n 0), (55, 58, 0, .getfield 42), (58, 59, 0, .iload_n 1), (59, 62, 0, .invokevirtual 110), (62, 65, 0, .iinc 3 1), (65, 68, 49, .goto (-16)), (68, 69, 0, .aload_n 0), (69, 72, 0, .getfield 33), (72, 75, 0, .getfield 109), (75, 76, 0, .ireturn)]
def mX6_send : Mt := (yX6_send, cX6_send, 4, (some .int), flX6, tX6_send)
theorem tX6_send_ok : ∀ e ∈ tX6_send, rowOk cX6_send e := by decide +kernel
theorem mX6_send_ok : mtOk mX6_send := ⟨by decide +kernel, tX6_send_ok, flX6_ok, by decide, lw_gm 432 (by decide +kernel) rfl⟩
def tX5_post : List Row := [(0, 1, 0, .aload_n 0), (1, 4, 0, .getfield 27), (4, 7, 0, .getfield 31), (7, 10, 0, .sipush 400), (10, 13, 14, .if_icmp .lt 4), (13, 14, 0, .return_), (14, 15, 0, .aload_n 0), (15, 18, 0, .getfield 23), (18, 19, 0, .iload_n 1), (19, 22, 0, .invokevirtual 37), (22, 23, 0, .istore_n 2), (23, 24, 0, .aload_n 0), (24, 27, 0, .getfield 27), (27, 28, 0, .iload_n 1), (28, 29, 0, .aload_n 0), (29, 32, 0, .getfield 23), (32, 35, 0, .getfield 43), (35, 36, 0, .iload_n 1), (36, 37, 0, .iaload), (37, 38, 0, .iload_n 2), (38, 39, 0, .aload_n 0), (39, 42, 0, .getfield 47), (42, 45, 0, .invokevirtual 50), (45, 46, 0, .istore_n 3), (46, 47, 0, .aload_n 0), (47, 50, 0, .getfield 23), (50, 53, 0, .getfield 43), (53, 54, 0, .iload_n 1), (54, 55, 0, .dup2), (55, 56, 0, .iaload), (56, 57, 0, .iconst 1), (57, 58, 0, .iadd), (58, 59, 0, .iastore), (59, 60, 0, .aload_n 0), (60, 63, 0, .getfield 19), (63, 66, 0, .getfield 54), (66, 67, 0, .iload_n 2), (67, 68, 0, .baload), (68, 71, 97, .ifCond .ne 29), (71, 72, 0, .aload_n 0), (72, 75, 0, .getfield 19), (75, 78, 0, .getfield 59), (78, 79, 0, .iload_n 2), (79, 80, 0, .iaload), (80, 82, 0, .bipush (-6)), (82, 85, 97, .if_icmp .eq 15), (85, 86, 0, .aload_n 0), (86, 89, 0, .getfield 19), (89, 92, 0, .getfield 62), (92, 93, 0, .iload_n 2), (93, 94, 0, .iaload), (94, 97, 113, .ifCond .le 19), (97, 98, 0, .aload_n 0), (98, 101, 0, .getfield 19), (101, 104, 0, .getfield 62), (104, 105, 0, .iload_n 2), (105, 106, 0, .dup2), (106, 107, 0, .iaload), (107, 108, 0, .iconst 1), (108, 109, 0, .iadd), (109, 110, 0, .iastore), (110, 113, 127, .goto 17), (113, 114, 0, .aload_n 0), (114, 115, 0, .iload_n 3), (115, 116, 0, .aload_n 0), (116, 119, 0, .getfield 19), (119, 122, 0, .getfield 59), (122, 123, 0, .iload_n 2), (123, 124, 0, .iaload), (124, 127, 0, .invokevirtual 65), (127, 128, 0, .return_)]
def mX5_post : Mt := (yX5_post, cX5_post, 4, none, flX5, tX5_post)
theorem tX5_post_ok : ∀ e ∈ tX5_post, rowOk cX5_post e := by decide +kernel
theorem mX5_post_ok : mtOk mX5_post := ⟨by decide +kernel, tX5_post_ok, flX5_ok, by decide, lw_gm 436 (by decide +kernel) rfl⟩
def tX2_add : List Row := [(0, 1, 0, .aload_n 0), (1, 4, 0, .getfield 45), (4, 6, 0, .istore 5), (6, 7, 0, .aload_n 0), (7, 10, 0, .getfield 9), (10, 12, 0, .iload 5), (12, 13, 0, .iload_n 1), (13, 14, 0, .iastore), (14, 15, 0, .aload_n 0), (15, 18, 0, .getfield 15), (18, 20, 0, .iload 5), (20, 21, 0, .iload_n 2), (21, 22, 0, .iastore), (22, 23, 0, .aload_n 0), (23, 26, 0, .getfield 18), (26, 28, 0, .iload 5), (28, 29, 0, .iload_n 3), (29, 30, 0, .iastore), (30, 31, 0, .aload_n 0), (31, 34, 0, .getfield 21), (34, 36, 0, .iload 5), (36, 37, 0, .iconst 0), (37, 38, 0, .iastore), (38, 39, 0, .aload_n 0), (39, 42, 0, .getfield 24), (42, 44, 0, .iload 5), (44, 46, 0, .bipush (-6)), (46, 47, 0, .iastore), (47, 48, 0, .aload_n 0), (48, 51, 0, .getfield 27), (51, 53, 0, .iload 5), (53, 55, 0, .iload 4), (55, 56, 0, .iastore), (56, 57, 0, .aload_n 0), (57, 60, 0, .getfield 30), (60, 62, 0, .iload 5), (62, 64, 0, .bipush (-6)), (64, 65, 0, .iastore), (65, 66, 0, .aload_n 0), (66, 69, 0, .getfield 33), (69, 71, 0, .iload 5), (71, 73, 0, .bipush (-6)), (73, 74, 0, .iastore), (74, 75, 0, .aload_n 0), (75, 78, 0, .getfield 36), (78, 80, 0, .iload 5), (80, 82, 0, .bipush (-6)), (82, 83, 0, .iastore), (83, 84, 0, .aload_n 0), (84, 87, 0, .getfield 42), (87, 88, 0, .iconst 0), (88, 89, 0, .dup2), (89, 90, 0, .iaload), (90, 91, 0, .iconst 1), (91, 92, 0, .iadd), (92, 93, 0, .iastore), (93, 94, 0, .aload_n 0), (94, 95, 0, .dup), (95, 98, 0, .getfield 45), (98, 99, 0, .iconst 1), (99, 100, 0, .iadd), (100, 103, 0, .putfield 45), (103, 105, 0, .iload 5), (105, 106, 0, .ireturn)]
def mX2_add : Mt := (yX2_add, cX2_add, 6, (some .int), flX2, tX2_add)
theorem tX2_add_ok : ∀ e ∈ tX2_add, rowOk cX2_add e := by decide +kernel
theorem mX2_add_ok : mtOk mX2_add := ⟨by decide +kernel, tX2_add_ok, flX2_ok, by decide, lw_gm 441 (by decide +kernel) rfl⟩
def tX6_tick : List Row := [(0, 1, 0, .iload_n 1), (1, 2, 0, .iconst 0), (2, 5, 0, .sipush 500), (5, 8, 0, .invokestatic 55), (8, 11, 14, .ifCond .ne 6), (11, 13, 0, .bipush (-2)), (13, 14, 0, .ireturn), (14, 15, 0, .aload_n 0), (15, 18, 0, .getfield 42), (18, 21, 0, .getfield 114), (21, 22, 0, .iload_n 1), (22, 23, 0, .iadd), (23, 24, 0, .istore_n 2), (24, 25, 0, .iconst 0), (25, 26, 0, .istore_n 3), (26, 27, 0, .iload_n 3), (27, 28, 0, .iload_n 1), (28, 31, 54, .if_icmp .ge 26), (31, 32, 0, .aload_n 0), (32, 35, 0, .getfield 42), (35, 38, 0, .invokevirtual 117), (38, 41, 54, .ifCond .eq 16), (41, 42, 0, .aload_n 0), (42, 45, 0, .getfield 42), (45, 48, 0, .invokevirtual 120), (48, 51, 0, .iinc 3 1), (51, 54, 26, .goto (-25)), (54, 55, 0, .aload_n 0), (55, 58, 0, .getfield 42), (58, 59, 0, .iload_n 2), (59, 62, 0, .putfield 114), (62, 63, 0, .iload_n 2), (63, 64, 0, .ireturn)]
def mX6_tick : Mt := (yX6_tick, cX6_tick, 4, (some .int), flX6, tX6_tick)
theorem tX6_tick_ok : ∀ e ∈ tX6_tick, rowOk cX6_tick e := by decide +kernel
theorem mX6_tick_ok : mtOk mX6_tick := ⟨by decide +kernel, tX6_tick_ok, flX6_ok, by decide, lw_gm 445 (by decide +kernel) rfl⟩
def tX5_isBusy : List Row := [(0, 1, 0, .aload_n 0), (1, 4, 0, .getfield 27), (4, 7, 0, .invokevirtual 84), (7, 10, 20, .ifCond .ne 13), (10, 11, 0, .aload_n 0), (11, 14, 0, .getfield 19), (14, 17, 0, .invokevirtual 88), (17, 20, 24, .ifCond .eq 7), (20, 21, 0, .iconst 1), (21, 24, 25, .goto 4), (24, 25, 0, .iconst 0), (25, 26, 0, .ireturn)]
def mX5_isBusy : Mt := (yX5_isBusy, cX5_isBusy, 1, (some .boolean), flX5, tX5_isBusy)
theorem tX5_isBusy_ok : ∀ e ∈ tX5_isBusy, rowOk cX5_isBusy e := by decide +kernel
theorem mX5_isBusy_ok : mtOk mX5_isBusy := ⟨by decide +kernel, tX5_isBusy_ok, flX5_ok, by decide, lw_gm 449 (by decide +kernel) rfl⟩
def tX2_isAnyUnderway : List Row := [(0, 1, 0, .aload_n 0), (1, 4, 0, .getfield 42), (4, 5, 0, .iconst 1), (5, 6, 0, .iaload), (6, 7, 0, .aload_n 0), (7, 10, 0, .getfield 42), (10, 11, 0, .iconst 2), (11, 12, 0, .iaload), (12, 13, 0, .iadd), (13, 14, 0, .aload_n 0), (14, 17, 0, .getfield 42), (17, 18, 0, .iconst 3), (18, 19, 0, .iaload), (19, 20, 0, .iadd), (20, 23, 27, .ifCond .le 7), (23, 24, 0, .iconst 1), (24, 27, 28, .goto 4), (27, 28, 0, .iconst 0), (28, 29, 0, .ireturn)]
def mX2_isAnyUnderway : Mt := (yX2_isAnyUnderway, cX2_isAnyUnderway, 1, (some .boolean), flX2, tX2_isAnyUnderway)
theorem tX2_isAnyUnderway_ok : ∀ e ∈ tX2_isAnyUnderway, rowOk cX2_isAnyUnderway e := by decide +kernel
theorem mX2_isAnyUnderway_ok : mtOk mX2_isAnyUnderway := ⟨by decide +kernel, tX2_isAnyUnderway_ok, flX2_ok, by decide, lw_gm 453 (by decide +kernel) rfl⟩
def tX0_isAnyUnsettled : List Row := [(0, 1, 0, .iconst 0), (1, 2, 0, .istore_n 1), (2, 3, 0, .iload_n 1), (3, 5, 0, .bipush 8), (5, 8, 24, .if_icmp .ge 19), (8, 9, 0, .aload_n 0), (9, 10, 0, .iload_n 1), (10, 13, 0, .invokevirtual 28), (13, 16, 18, .ifCond .eq 5), (16, 17, 0, .iconst 1), (17, 18, 0, .ireturn), (18, 21, 0, .iinc 1 1), (21, 24, 2, .goto (-19)), (24, 25, 0, .iconst 0), (25, 26, 0, .ireturn)]
def mX0_isAnyUnsettled : Mt := (yX0_isAnyUnsettled, cX0_isAnyUnsettled, 2, (some .boolean), flX0, tX0_isAnyUnsettled)
theorem tX0_isAnyUnsettled_ok : ∀ e ∈ tX0_isAnyUnsettled, rowOk cX0_isAnyUnsettled e := by decide +kernel
theorem mX0_isAnyUnsettled_ok : mtOk mX0_isAnyUnsettled := ⟨by decide +kernel, tX0_isAnyUnsettled_ok, flX0_ok, by decide, lw_gm 457 (by decide +kernel) rfl⟩
def tX0_isUnsettled : List Row := [(0, 1, 0, .aload_n 0), (1, 4, 0, .getfield 15), (4, 5, 0, .iload_n 1), (5, 6, 0, .iaload), (6, 8, 0, .bipush (-6)), (8, 11, 20, .if_icmp .ne 12), (11, 12, 0, .aload_n 0), (12, 15, 0, .getfield 18), (15, 16, 0, .iload_n 1), (16, 17, 0, .baload), (17, 20, 24, .ifCond .eq 7), (20, 21, 0, .iconst 1), (21, 24, 25, .goto 4), (24, 25, 0, .iconst 0), (25, 26, 0, .ireturn)]
def mX0_isUnsettled : Mt := (yX0_isUnsettled, cX0_isUnsettled, 2, (some .boolean), flX0, tX0_isUnsettled)
theorem tX0_isUnsettled_ok : ∀ e ∈ tX0_isUnsettled, rowOk cX0_isUnsettled e := by decide +kernel
theorem mX0_isUnsettled_ok : mtOk mX0_isUnsettled := ⟨by decide +kernel, tX0_isUnsettled_ok, flX0_ok, by decide, lw_gm 461 (by decide +kernel) rfl⟩
def tX5_passTick : List Row := [(0, 1, 0, .aload_n 0), (1, 2, 0, .dup), (2, 5, 0, .getfield 47), (5, 6, 0, .iconst 1), (6, 7, 0, .iadd), (7, 10, 0, .putfield 47), (10, 11, 0, .iconst 0), (11, 12, 0, .istore_n 1), (12, 13, 0, .iload_n 1), (13, 14, 0, .aload_n 0), (14, 17, 0, .getfield 15), (17, 20, 0, .getfield 91), (20, 23, 46, .if_icmp .ge 26), (23, 24, 0, .aload_n 0), (24, 27, 0, .getfield 15), (27, 30, 0, .getfield 92), (30, 31, 0, .iload_n 1), (31, 32, 0, .baload), (32, 35, 40, .ifCond .eq 8), (35, 36, 0, .aload_n 0), (36, 37, 0, .iload_n 1), (37, 40, 0, .invokevirtual 95), (40, 43, 0, .iinc 1 1), (43, 46, 12, .goto (-31)), (46, 47, 0, .iconst 0), (47, 48, 0, .istore_n 1), (48, 49, 0, .iload_n 1), (49, 50, 0, .aload_n 0), (50, 53, 0, .getfield 15), (53, 56, 0, .getfield 91), (56, 59, 70, .if_icmp .ge 14), (59, 60, 0, .aload_n 0), (60, 61, 0, .iload_n 1), (61, 64, 0, .invokevirtual 99), (64, 67, 0, .iinc 1 1), (67, 70, 48, .goto (-19)), (70, 71, 0, .aload_n 0), (71, 74, 0, .getfield 27), (74, 77, 0, .getfield 102), (77, 78, 0, .iconst 3), (78, 79, 0, .iaload), (79, 82, 86, .ifCond .le 7), (82, 83, 0, .aload_n 0), (83, 86, 0, .invokevirtual 105), (86, 87, 0, .iconst 0), (87, 88, 0, .istore_n 1), (88, 89, 0, .iload_n 1), (89, 91, 0, .bipush 8), (91, 94, 116, .if_icmp .ge 25), (94, 95, 0, .aload_n 0), (95, 98, 0, .getfield 19), (98, 99, 0, .iload_n 1), (99, 102, 0, .invokevirtual 108), (102, 105, 110, .ifCond .eq 8), (105, 106, 0, .aload_n 0), (106, 107, 0, .iload_n 1), (107, 110, 0, .invokevirtual 112), (110, 113, 0, .iinc 1 1), (113, 116, 88, .goto (-25)), (116, 117, 0, .return_)]
def mX5_passTick : Mt := (yX5_passTick, cX5_passTick, 2, none, flX5, tX5_passTick)
theorem tX5_passTick_ok : ∀ e ∈ tX5_passTick, rowOk cX5_passTick e := by decide +kernel
theorem mX5_passTick_ok : mtOk mX5_passTick := ⟨by decide +kernel, tX5_passTick_ok, flX5_ok, by decide, lw_gm 465 (by decide +kernel) rfl⟩
def tX5_leave : List Row := [(0, 1, 0, .aload_n 0), (1, 4, 0, .getfield 15), (4, 7, 0, .getfield 115), (7, 8, 0, .iload_n 1), (8, 9, 0, .iaload), (9, 10, 0, .istore_n 2), (10, 11, 0, .iload_n 2), (11, 12, 0, .aload_n 0), (12, 15, 0, .getfield 15), (15, 18, 0, .getfield 118), (18, 19, 0, .iload_n 1), (19, 20, 0, .iaload), (20, 21, 0, .iadd), (21, 22, 0, .aload_n 0), (22, 25, 0, .getfield 15), (25, 28, 0, .getfield 69), (28, 29, 0, .iload_n 1), (29, 30, 0, .iaload), (30, 33, 0, .invokestatic 121), (33, 34, 0, .istore_n 3), (34, 35, 0, .iload_n 2), (35, 37, 0, .istore 4), (37, 39, 0, .iload 4), (39, 40, 0, .iload_n 3), (40, 43, 111, .if_icmp .ge 71), (43, 44, 0, .aload_n 0), (44, 47, 0, .getfield 15), (47, 50, 0, .getfield 74), (50, 51, 0, .iload_n 1), (51, 52, 0, .aaload), (52, 54, 0, .iload 4), (54, 55, 0, .iaload), (55, 57, 0, .istore 5), (57, 58, 0, .aload_n 0), (58, 61, 0, .getfield 27), (61, 64, 0, .getfield 127), (64, 66, 0, .iload 5), (66, 67, 0, .aload_n 0), (67, 70, 0, .getfield 47), (70, 71, 0, .iastore), (71, 72, 0, .aload_n 0), (72, 75, 0, .getfield 27), (75, 78, 0, .getfield 130), (78, 80, 0, .iload 5), (80, 81, 0, .aload_n 0), (81, 84, 0, .getfield 47), (84, 85, 0, .aload_n 0), (85, 88, 0, .getfield 15), (88, 91, 0, .getfield 133), (91, 92, 0, .iload_n 1), (92, 93, 0, .iaload), (93, 94, 0, .iadd), (94, 95, 0, .iastore), (95, 96, 0, .aload_n 0), (96, 99, 0, .getfield 27), (99, 101, 0, .iload 5), (101, 102, 0, .iconst 2), (102, 105, 0, .invokevirtual 81), (105, 108, 0, .iinc 4 1), (108, 111, 37, .goto (-71)), (111, 112, 0, .aload_n 0), (112, 115, 0, .getfield 15), (115, 118, 0, .getfield 115), (118, 119, 0, .iload_n 1), (119, 120, 0, .iload_n 3), (120, 121, 0, .iastore), (121, 122, 0, .aload_n 0), (122, 125, 0, .getfield 15), (125, 128, 0, .getfield 136), (128, 129, 0, .iload_n 1), (129, 130, 0, .dup2), (130, 131, 0, .iaload), (131, 132, 0, .iload_n 3), (132, 133, 0, .iload_n 2), (133, 134, 0, .isub), (134, 135, 0, .iadd), (135, 136, 0, .iastore), (136, 137, 0, .return_)]
def mX5_leave : Mt := (yX5_leave, cX5_leave, 6, none, flX5, tX5_leave)
theorem tX5_leave_ok : ∀ e ∈ tX5_leave, rowOk cX5_leave e := by decide +kernel
theorem mX5_leave_ok : mtOk mX5_leave := ⟨by decide +kernel, tX5_leave_ok, flX5_ok, by decide, lw_gm 469 (by decide +kernel) rfl⟩
def tX5_arrive : List Row := [(0, 1, 0, .aload_n 0), (1, 4, 0, .getfield 15), (4, 7, 0, .getfield 115), (7, 8, 0, .iload_n 1), (8, 9, 0, .iaload), (9, 10, 0, .istore_n 2), (10, 11, 0, .aload_n 0), (11, 14, 0, .getfield 15), (14, 17, 0, .getfield 139), (17, 18, 0, .iload_n 1), (18, 19, 0, .iaload), (19, 20, 0, .istore_n 3), (20, 21, 0, .iload_n 3), (21, 22, 0, .iload_n 2), (22, 25, 96, .if_icmp .ge 74), (25, 26, 0, .aload_n 0), (26, 29, 0, .getfield 27), (29, 32, 0, .getfield 130), (32, 33, 0, .aload_n 0), (33, 36, 0, .getfield 15), (36, 39, 0, .getfield 74), (39, 40, 0, .iload_n 1), (40, 41, 0, .aaload), (41, 42, 0, .iload_n 3), (42, 43, 0, .iaload), (43, 44, 0, .iaload), (44, 45, 0, .aload_n 0), (45, 48, 0, .getfield 47), (48, 51, 96, .if_icmp .ne 48), (51, 52, 0, .aload_n 0), (52, 55, 0, .getfield 15), (55, 58, 0, .getfield 74), (58, 59, 0, .iload_n 1), (59, 60, 0, .aaload), (60, 61, 0, .iload_n 3), (61, 62, 0, .iaload), (62, 64, 0, .istore 4), (64, 65, 0, .aload_n 0), (65, 68, 0, .getfield 142), (68, 71, 84, .ifCond .eq 16), (71, 72, 0, .aload_n 0), (72, 75, 0, .getfield 27), (75, 77, 0, .iload 4), (77, 78, 0, .iconst 3), (78, 81, 0, .invokevirtual 81), (81, 84, 90, .goto 9), (84, 85, 0, .aload_n 0), (85, 87, 0, .iload 4), (87, 90, 0, .invokevirtual 146), (90, 93, 0, .iinc 3 1), (93, 96, 20, .goto (-73)), (96, 97, 0, .aload_n 0), (97, 100, 0, .getfield 15), (100, 103, 0, .getfield 139), (103, 104, 0, .iload_n 1), (104, 105, 0, .iload_n 3), (105, 106, 0, .iastore), (106, 107, 0, .return_)]
def mX5_arrive : Mt := (yX5_arrive, cX5_arrive, 5, none, flX5, tX5_arrive)
theorem tX5_arrive_ok : ∀ e ∈ tX5_arrive, rowOk cX5_arrive e := by decide +kernel
theorem mX5_arrive_ok : mtOk mX5_arrive := ⟨by decide +kernel, tX5_arrive_ok, flX5_ok, by decide, lw_gm 476 (by decide +kernel) rfl⟩
def tX5_letOut : List Row := [(0, 1, 0, .aload_n 0), (1, 4, 0, .getfield 27), (4, 7, 0, .getfield 155), (7, 8, 0, .aload_n 0), (8, 11, 0, .getfield 27), (11, 14, 0, .getfield 102), (14, 15, 0, .iconst 4), (15, 16, 0, .iaload), (16, 17, 0, .iload_n 1), (17, 18, 0, .iastore), (18, 19, 0, .aload_n 0), (19, 22, 0, .getfield 27), (22, 23, 0, .iload_n 1), (23, 24, 0, .iconst 4), (24, 27, 0, .invokevirtual 81), (27, 28, 0, .aload_n 0), (28, 31, 0, .getfield 27), (31, 34, 0, .getfield 158), (34, 35, 0, .iload_n 1), (35, 36, 0, .aload_n 0), (36, 39, 0, .getfield 47), (39, 40, 0, .iastore), (40, 41, 0, .aload_n 0), (41, 44, 0, .getfield 23), (44, 45, 0, .aload_n 0), (45, 48, 0, .getfield 27), (48, 51, 0, .getfield 149), (51, 52, 0, .iload_n 1), (52, 53, 0, .iaload), (53, 54, 0, .aload_n 0), (54, 57, 0, .getfield 27), (57, 60, 0, .getfield 161), (60, 61, 0, .iload_n 1), (61, 62, 0, .iaload), (62, 65, 0, .invokevirtual 164), (65, 66, 0, .return_)]
def mX5_letOut : Mt := (yX5_letOut, cX5_letOut, 2, none, flX5, tX5_letOut)
theorem tX5_letOut_ok : ∀ e ∈ tX5_letOut, rowOk cX5_letOut e := by decide +kernel
theorem mX5_letOut_ok : mtOk mX5_letOut := ⟨by decide +kernel, tX5_letOut_ok, flX5_ok, by decide, lw_gm 480 (by decide +kernel) rfl⟩
def tX1_noteOut : List Row := [(0, 1, 0, .aload_n 0), (1, 4, 0, .getfield 28), (4, 5, 0, .iload_n 1), (5, 6, 0, .dup2), (6, 7, 0, .iaload), (7, 8, 0, .iconst 1), (8, 9, 0, .iadd), (9, 10, 0, .iastore), (10, 11, 0, .iload_n 2), (11, 12, 0, .aload_n 0), (12, 15, 0, .getfield 34), (15, 16, 0, .iload_n 1), (16, 17, 0, .iaload), (17, 20, 27, .if_icmp .ge 10), (20, 21, 0, .aload_n 0), (21, 24, 0, .getfield 37), (24, 25, 0, .iload_n 1), (25, 26, 0, .iconst 1), (26, 27, 0, .bastore), (27, 28, 0, .aload_n 0), (28, 31, 0, .getfield 34), (31, 32, 0, .iload_n 1), (32, 33, 0, .iload_n 2), (33, 34, 0, .iastore), (34, 35, 0, .return_)]
def mX1_noteOut : Mt := (yX1_noteOut, cX1_noteOut, 3, none, flX1, tX1_noteOut)
theorem tX1_noteOut_ok : ∀ e ∈ tX1_noteOut, rowOk cX1_noteOut e := by decide +kernel
theorem mX1_noteOut_ok : mtOk mX1_noteOut := ⟨by decide +kernel, tX1_noteOut_ok, flX1_ok, by decide, lw_gm 484 (by decide +kernel) rfl⟩
def tX5_letOutInOrder : List Row := [(0, 1, 0, .iconst 0), (1, 2, 0, .istore_n 1), (2, 3, 0, .iload_n 1), (3, 5, 0, .bipush 16), (5, 8, 21, .if_icmp .ge 16), (8, 9, 0, .aload_n 0), (9, 12, 0, .getfield 9), (12, 13, 0, .iload_n 1), (13, 14, 0, .iconst 0), (14, 15, 0, .bastore), (15, 18, 0, .iinc 1 1), (18, 21, 2, .goto (-16)), (21, 22, 0, .iconst 0), (22, 23, 0, .istore_n 1), (23, 24, 0, .iload_n 1), (24, 25, 0, .aload_n 0), (25, 28, 0, .getfield 27), (28, 31, 0, .getfield 31), (31, 34, 99, .if_icmp .ge 68), (34, 35, 0, .aload_n 0), (35, 38, 0, .getfield 27), (38, 41, 0, .getfield 149), (41, 42, 0, .iload_n 1), (42, 43, 0, .iaload), (43, 44, 0, .istore_n 2), (44, 45, 0, .aload_n 0), (45, 48, 0, .getfield 27), (48, 51, 0, .getfield 152), (51, 52, 0, .iload_n 1), (52, 53, 0, .iaload), (53, 54, 0, .istore_n 3), (54, 55, 0, .iload_n 3), (55, 56, 0, .iconst 3), (56, 59, 76, .if_icmp .ne 20), (59, 60, 0, .aload_n 0), (60, 63, 0, .getfield 9), (63, 64, 0, .iload_n 2), (64, 65, 0, .baload), (65, 68, 76, .ifCond .ne 11), (68, 69, 0, .aload_n 0), (69, 70, 0, .iload_n 1), (70, 73, 0, .invokevirtual 146), (73, 76, 93, .goto 20), (76, 77, 0, .iload_n 3), (77, 78, 0, .iconst 4), (78, 81, 93, .if_icmp .eq 15), (81, 82, 0, .iload_n 3), (82, 83, 0, .iconst 5), (83, 86, 93, .if_icmp .eq 10), (86, 87, 0, .aload_n 0), (87, 90, 0, .getfield 9), (90, 91, 0, .iload_n 2), (91, 92, 0, .iconst 1), (92, 93, 0, .bastore), (93, 96, 0, .iinc 1 1), (96, 99, 23, .goto (-73)), (99, 100, 0, .return_)]
def mX5_letOutInOrder : Mt := (yX5_letOutInOrder, cX5_letOutInOrder, 4, none, flX5, tX5_letOutInOrder)
theorem tX5_letOutInOrder_ok : ∀ e ∈ tX5_letOutInOrder, rowOk cX5_letOutInOrder e := by decide +kernel
theorem mX5_letOutInOrder_ok : mtOk mX5_letOutInOrder := ⟨by decide +kernel, tX5_letOutInOrder_ok, flX5_ok, by decide, lw_gm 488 (by decide +kernel) rfl⟩
def tX5_settle : List Row := [(0, 1, 0, .aload_n 0), (1, 4, 0, .getfield 19), (4, 7, 0, .getfield 167), (7, 8, 0, .iload_n 1), (8, 9, 0, .iaload), (9, 11, 0, .bipush (-6)), (11, 14, 26, .if_icmp .eq 15), (14, 15, 0, .aload_n 0), (15, 18, 0, .getfield 19), (18, 21, 0, .getfield 167), (21, 22, 0, .iload_n 1), (22, 23, 0, .iaload), (23, 26, 35, .goto 12), (26, 27, 0, .aload_n 0), (27, 30, 0, .getfield 19), (30, 33, 0, .getfield 59), (33, 34, 0, .iload_n 1), (34, 35, 0, .iaload), (35, 36, 0, .istore_n 2), (36, 37, 0, .iload_n 2), (37, 39, 0, .bipush (-6)), (39, 42, 57, .if_icmp .eq 18), (42, 43, 0, .aload_n 0), (43, 44, 0, .iload_n 1), (44, 45, 0, .iload_n 2), (45, 48, 0, .invokevirtual 173), (48, 51, 57, .ifCond .eq 9), (51, 52, 0, .aload_n 0), (52, 53, 0, .iload_n 1), (53, 54, 0, .iload_n 2), (54, 57, 0, .invokevirtual 170), (57, 58, 0, .return_)]
def mX5_settle : Mt := (yX5_settle, cX5_settle, 3, none, flX5, tX5_settle)
theorem tX5_settle_ok : ∀ e ∈ tX5_settle, rowOk cX5_settle e := by decide +kernel
theorem mX5_settle_ok : mtOk mX5_settle := ⟨by decide +kernel, tX5_settle_ok, flX5_ok, by decide, lw_gm 493 (by decide +kernel) rfl⟩
def tX5_mayReach : List Row := [(0, 1, 0, .aload_n 0), (1, 4, 0, .getfield 27), (4, 7, 0, .invokevirtual 84), (7, 10, 12, .ifCond .ne 5), (10, 11, 0, .iconst 1), (11, 12, 0, .ireturn), (12, 13, 0, .aload_n 0), (13, 16, 0, .getfield 47), (16, 17, 0, .iconst 1), (17, 18, 0, .iadd), (18, 19, 0, .aload_n 0), (19, 22, 0, .getfield 15), (22, 25, 0, .getfield 133), (25, 26, 0, .iload_n 2), (26, 27, 0, .iaload), (27, 28, 0, .iadd), (28, 29, 0, .istore_n 3), (29, 30, 0, .iconst 0), (30, 32, 0, .istore 4), (32, 34, 0, .iload 4), (34, 35, 0, .aload_n 0), (35, 38, 0, .getfield 27), (38, 41, 0, .getfield 31), (41, 44, 113, .if_icmp .ge 72), (44, 45, 0, .aload_n 0), (45, 48, 0, .getfield 27), (48, 51, 0, .getfield 177), (51, 53, 0, .iload 4), (53, 54, 0, .iaload), (54, 55, 0, .iload_n 1), (55, 58, 61, .if_icmp .eq 6), (58, 61, 107, .goto 49), (61, 62, 0, .aload_n 0), (62, 65, 0, .getfield 27), (65, 68, 0, .getfield 152), (68, 70, 0, .iload 4), (70, 71, 0, .iaload), (71, 72, 0, .iconst 1), (72, 75, 77, .if_icmp .ne 5), (75, 76, 0, .iconst 0), (76, 77, 0, .ireturn), (77, 78, 0, .aload_n 0), (78, 81, 0, .getfield 27), (81, 84, 0, .getfield 152), (84, 86, 0, .iload 4), (86, 87, 0, .iaload), (87, 88, 0, .iconst 2), (88, 91, 107, .if_icmp .ne 19), (91, 92, 0, .aload_n 0), (92, 95, 0, .getfield 27), (95, 98, 0, .getfield 130), (98, 100, 0, .iload 4), (100, 101, 0, .iaload), (101, 102, 0, .iload_n 3), (102, 105, 107, .if_icmp .lt 5), (105, 106, 0, .iconst 0), (106, 107, 0, .ireturn), (107, 110, 0, .iinc 4 1), (110, 113, 32, .goto (-78)), (113, 114, 0, .iconst 1), (114, 115, 0, .ireturn)]
def mX5_mayReach : Mt := (yX5_mayReach, cX5_mayReach, 5, (some .boolean), flX5, tX5_mayReach)
theorem tX5_mayReach_ok : ∀ e ∈ tX5_mayReach, rowOk cX5_mayReach e := by decide +kernel
theorem mX5_mayReach_ok : mtOk mX5_mayReach := ⟨by decide +kernel, tX5_mayReach_ok, flX5_ok, by decide, lw_gm 497 (by decide +kernel) rfl⟩
def tX5_reach : List Row := [(0, 1, 0, .aload_n 0), (1, 4, 0, .getfield 19), (4, 7, 0, .getfield 167), (7, 8, 0, .iload_n 1), (8, 9, 0, .iaload), (9, 11, 0, .bipush (-6)), (11, 14, 27, .if_icmp .eq 16), (14, 15, 0, .aload_n 0), (15, 18, 0, .getfield 19), (18, 21, 0, .getfield 180), (21, 22, 0, .iload_n 1), (22, 23, 0, .dup2), (23, 24, 0, .iaload), (24, 25, 0, .iconst 1), (25, 26, 0, .iadd), (26, 27, 0, .iastore), (27, 28, 0, .aload_n 0), (28, 31, 0, .getfield 19), (31, 34, 0, .getfield 167), (34, 35, 0, .iload_n 1), (35, 37, 0, .bipush (-6)), (37, 38, 0, .iastore), (38, 39, 0, .aload_n 0), (39, 42, 0, .getfield 19), (42, 45, 0, .getfield 59), (45, 46, 0, .iload_n 1), (46, 47, 0, .iload_n 2), (47, 48, 0, .iastore), (48, 49, 0, .aload_n 0), (49, 50, 0, .iload_n 1), (50, 53, 0, .invokevirtual 183), (53, 54, 0, .pop), (54, 55, 0, .return_)]
def mX5_reach : Mt := (yX5_reach, cX5_reach, 3, none, flX5, tX5_reach)
theorem tX5_reach_ok : ∀ e ∈ tX5_reach, rowOk cX5_reach e := by decide +kernel
theorem mX5_reach_ok : mtOk mX5_reach := ⟨by decide +kernel, tX5_reach_ok, flX5_ok, by decide, lw_gm 501 (by decide +kernel) rfl⟩
def tX6_move : List Row := [(0, 1, 0, .iload_n 1), (1, 3, 0, .bipush 8), (3, 6, 0, .invokestatic 74), (6, 9, 23, .ifCond .eq 17), (9, 10, 0, .iload_n 2), (10, 11, 0, .aload_n 0), (11, 14, 0, .getfield 10), (14, 17, 0, .getfield 59), (17, 20, 0, .invokestatic 74), (20, 23, 25, .ifCond .ne 5), (23, 24, 0, .iconst (-1)), (24, 25, 0, .ireturn), (25, 26, 0, .iload_n 3), (26, 27, 0, .iconst 0), (27, 28, 0, .iconst 2), (28, 31, 0, .invokestatic 55), (31, 34, 37, .ifCond .ne 6), (34, 36, 0, .bipush (-2)), (36, 37, 0, .ireturn), (37, 38, 0, .aload_n 0), (38, 41, 0, .getfield 19), (41, 44, 0, .getfield 123), (44, 45, 0, .iload_n 1), (45, 46, 0, .iaload), (46, 48, 0, .bipush (-6)), (48, 51, 62, .if_icmp .eq 14), (51, 52, 0, .aload_n 0), (52, 55, 0, .getfield 19), (55, 56, 0, .iload_n 1), (56, 59, 0, .invokevirtual 126), (59, 62, 65, .ifCond .eq 6), (62, 64, 0, .bipush (-3)), (64, 65, 0, .ireturn), (65, 66, 0, .aload_n 0), (66, 69, 0, .getfield 10), (69, 72, 0, .getfield 129), (72, 73, 0, .iload_n 2), (73, 74, 0, .baload), (74, 77, 90, .ifCond .eq 16), (77, 78, 0, .aload_n 0), (78, 81, 0, .getfield 19), (81, 84, 0, .getfield 123), (84, 85, 0, .iload_n 1), (85, 86, 0, .iaload), (86, 87, 0, .iload_n 2), (87, 90, 93, .if_icmp .ne 6), (90, 92, 0, .bipush (-5)), (92, 93, 0, .ireturn), (93, 94, 0, .iload_n 3), (94, 95, 0, .iconst 2), (95, 98, 111, .if_icmp .ne 16), (98, 99, 0, .aload_n 0), (99, 102, 0, .getfield 42), (102, 105, 0, .getfield 101), (105, 108, 111, .ifCond .ne 6), (108, 110, 0, .bipush (-5)), (110, 111, 0, .ireturn), (111, 112, 0, .aload_n 0), (112, 115, 0, .getfield 42), (115, 116, 0, .iload_n 1), (116, 117, 0, .iload_n 2), (117, 118, 0, .iload_n 3), (118, 121, 0, .invokevirtual 133), (121, 124, 0, .invokestatic 105), (124, 125, 0, .ireturn)]
def mX6_move : Mt := (yX6_move, cX6_move, 4, (some .int), flX6, tX6_move)
theorem tX6_move_ok : ∀ e ∈ tX6_move, rowOk cX6_move e := by decide +kernel
theorem mX6_move_ok : mtOk mX6_move := ⟨by decide +kernel, tX6_move_ok, flX6_ok, by decide, lw_gm 505 (by decide +kernel) rfl⟩
def tX5_startMove : List Row := [(0, 1, 0, .aload_n 0), (1, 4, 0, .getfield 19), (4, 7, 0, .getfield 167), (7, 8, 0, .iload_n 1), (8, 9, 0, .iload_n 2), (9, 10, 0, .iastore), (10, 11, 0, .aload_n 0), (11, 14, 0, .getfield 19), (14, 17, 0, .getfield 54), (17, 18, 0, .iload_n 1), (18, 19, 0, .iload_n 3), (19, 20, 0, .iconst 1), (20, 23, 27, .if_icmp .ne 7), (23, 24, 0, .iconst 1), (24, 27, 28, .goto 4), (27, 28, 0, .iconst 0), (28, 29, 0, .bastore), (29, 30, 0, .iload_n 3), (30, 31, 0, .iconst 2), (31, 34, 43, .if_icmp .ne 12), (34, 35, 0, .aload_n 0), (35, 36, 0, .iload_n 1), (36, 37, 0, .iload_n 2), (37, 40, 0, .invokevirtual 170), (40, 43, 48, .goto 8), (43, 44, 0, .aload_n 0), (44, 45, 0, .iload_n 1), (45, 48, 0, .invokevirtual 112), (48, 49, 0, .aload_n 0), (49, 52, 0, .getfield 19), (52, 55, 0, .getfield 167), (55, 56, 0, .iload_n 1), (56, 57, 0, .iaload), (57, 59, 0, .bipush (-6)), (59, 62, 66, .if_icmp .ne 7), (62, 63, 0, .iconst 1), (63, 66, 67, .goto 4), (66, 67, 0, .iconst 0), (67, 68, 0, .ireturn)]
def mX5_startMove : Mt := (yX5_startMove, cX5_startMove, 4, (some .boolean), flX5, tX5_startMove)
theorem tX5_startMove_ok : ∀ e ∈ tX5_startMove, rowOk cX5_startMove e := by decide +kernel
theorem mX5_startMove_ok : mtOk mX5_startMove := ⟨by decide +kernel, tX5_startMove_ok, flX5_ok, by decide, lw_gm 510 (by decide +kernel) rfl⟩
def tX6_drop : List Row := [(0, 1, 0, .iload_n 1), (1, 3, 0, .bipush 8), (3, 6, 0, .invokestatic 74), (6, 9, 11, .ifCond .ne 5), (9, 10, 0, .iconst (-1)), (10, 11, 0, .ireturn), (11, 12, 0, .aload_n 0), (12, 15, 0, .getfield 19), (15, 18, 0, .getfield 136), (18, 19, 0, .iload_n 1), (19, 20, 0, .iaload), (20, 22, 0, .bipush (-6)), (22, 25, 28, .if_icmp .ne 6), (25, 27, 0, .bipush (-3)), (27, 28, 0, .ireturn), (28, 29, 0, .aload_n 0), (29, 32, 0, .getfield 42), (32, 33, 0, .iload_n 1), (33, 36, 0, .invokevirtual 139), (36, 37, 0, .ireturn)]
def mX6_drop : Mt := (yX6_drop, cX6_drop, 2, (some .int), flX6, tX6_drop)
theorem tX6_drop_ok : ∀ e ∈ tX6_drop, rowOk cX6_drop e := by decide +kernel
theorem mX6_drop_ok : mtOk mX6_drop := ⟨by decide +kernel, tX6_drop_ok, flX6_ok, by decide, lw_gm 514 (by decide +kernel) rfl⟩
def tX5_cancelMove : List Row := [(0, 1, 0, .aload_n 0), (1, 4, 0, .getfield 19), (4, 7, 0, .getfield 167), (7, 8, 0, .iload_n 1), (8, 10, 0, .bipush (-6)), (10, 11, 0, .iastore), (11, 12, 0, .aload_n 0), (12, 13, 0, .iload_n 1), (13, 16, 0, .invokevirtual 183), (16, 17, 0, .ireturn)]
def mX5_cancelMove : Mt := (yX5_cancelMove, cX5_cancelMove, 2, (some .int), flX5, tX5_cancelMove)
theorem tX5_cancelMove_ok : ∀ e ∈ tX5_cancelMove, rowOk cX5_cancelMove e := by decide +kernel
theorem mX5_cancelMove_ok : mtOk mX5_cancelMove := ⟨by decide +kernel, tX5_cancelMove_ok, flX5_ok, by decide, lw_gm 518 (by decide +kernel) rfl⟩
def tX6_fail : List Row := [(0, 1, 0, .iload_n 1), (1, 2, 0, .aload_n 0), (2, 5, 0, .getfield 10), (5, 8, 0, .getfield 59), (8, 11, 0, .invokestatic 74), (11, 14, 16, .ifCond .ne 5), (14, 15, 0, .iconst (-1)), (15, 16, 0, .ireturn), (16, 17, 0, .aload_n 0), (17, 20, 0, .getfield 10), (20, 23, 0, .getfield 129), (23, 24, 0, .iload_n 1), (24, 25, 0, .baload), (25, 28, 31, .ifCond .ne 6), (28, 30, 0, .bipush (-3)), (30, 31, 0, .ireturn), (31, 32, 0, .aload_n 0), (32, 35, 0, .getfield 42), (35, 36, 0, .iload_n 1), (36, 39, 0, .invokevirtual 142), (39, 40, 0, .ireturn)]
def mX6_fail : Mt := (yX6_fail, cX6_fail, 2, (some .int), flX6, tX6_fail)
theorem tX6_fail_ok : ∀ e ∈ tX6_fail, rowOk cX6_fail e := by decide +kernel
theorem mX6_fail_ok : mtOk mX6_fail := ⟨by decide +kernel, tX6_fail_ok, flX6_ok, by decide, lw_gm 522 (by decide +kernel) rfl⟩
def tX5_breakLink : List Row := [(0, 1, 0, .aload_n 0), (1, 4, 0, .getfield 15), (4, 7, 0, .getfield 92), (7, 8, 0, .iload_n 1), (8, 9, 0, .iconst 0), (9, 10, 0, .bastore), (10, 11, 0, .aload_n 0), (11, 12, 0, .iload_n 1), (12, 15, 0, .invokevirtual 186), (15, 16, 0, .istore_n 2), (16, 17, 0, .iconst 0), (17, 18, 0, .istore_n 3), (18, 19, 0, .iload_n 3), (19, 21, 0, .bipush 8), (21, 24, 49, .if_icmp .ge 28), (24, 25, 0, .aload_n 0), (25, 28, 0, .getfield 19), (28, 31, 0, .getfield 167), (31, 32, 0, .iload_n 3), (32, 33, 0, .iaload), (33, 34, 0, .iload_n 1), (34, 37, 43, .if_icmp .ne 9), (37, 38, 0, .aload_n 0), (38, 39, 0, .iload_n 3), (39, 42, 0, .invokevirtual 189), (42, 43, 0, .pop), (43, 46, 0, .iinc 3 1), (46, 49, 18, .goto (-28)), (49, 50, 0, .iconst 0), (50, 51, 0, .istore_n 3), (51, 52, 0, .iload_n 3), (52, 54, 0, .bipush 8), (54, 57, 136, .if_icmp .ge 82), (57, 58, 0, .aload_n 0), (58, 61, 0, .getfield 19), (61, 64, 0, .getfield 59), (64, 65, 0, .iload_n 3), (65, 66, 0, .iaload), (66, 67, 0, .iload_n 1), (67, 70, 73, .if_icmp .eq 6), (70, 73, 130, .goto 60), (73, 74, 0, .aload_n 0), (74, 77, 0, .getfield 19), (77, 80, 0, .getfield 167), (80, 81, 0, .iload_n 3), (81, 83, 0, .bipush (-6)), (83, 84, 0, .iastore), (84, 85, 0, .aload_n 0), (85, 88, 0, .getfield 19), (88, 91, 0, .getfield 59), (91, 92, 0, .iload_n 3), (92, 93, 0, .aload_n 0), (93, 96, 0, .invokevirtual 192), (96, 97, 0, .iastore), (97, 98, 0, .aload_n 0), (98, 101, 0, .getfield 19), (101, 104, 0, .getfield 54), (104, 105, 0, .iload_n 3), (105, 106, 0, .aload_n 0), (106, 109, 0, .getfield 19), (109, 112, 0, .getfield 59), (112, 113, 0, .iload_n 3), (113, 114, 0, .iaload), (114, 116, 0, .bipush (-6)), (116, 119, 123, .if_icmp .eq 7), (119, 120, 0, .iconst 1), (120, 123, 124, .goto 4), (123, 124, 0, .iconst 0), (124, 125, 0, .bastore), (125, 126, 0, .aload_n 0), (126, 127, 0, .iload_n 3), (127, 130, 0, .invokevirtual 112), (130, 133, 0, .iinc 3 1), (133, 136, 51, .goto (-82)), (136, 137, 0, .iload_n 2), (137, 138, 0, .ireturn)]
def mX5_breakLink : Mt := (yX5_breakLink, cX5_breakLink, 4, (some .int), flX5, tX5_breakLink)
theorem tX5_breakLink_ok : ∀ e ∈ tX5_breakLink, rowOk cX5_breakLink e := by decide +kernel
theorem mX5_breakLink_ok : mtOk mX5_breakLink := ⟨by decide +kernel, tX5_breakLink_ok, flX5_ok, by decide, lw_gm 526 (by decide +kernel) rfl⟩
def tX5_loseLetters : List Row := [(0, 1, 0, .aload_n 0), (1, 4, 0, .getfield 15), (4, 7, 0, .getfield 139), (7, 8, 0, .iload_n 1), (8, 9, 0, .iaload), (9, 10, 0, .istore_n 2), (10, 11, 0, .aload_n 0), (11, 14, 0, .getfield 15), (14, 17, 0, .getfield 69), (17, 18, 0, .iload_n 1), (18, 19, 0, .iaload), (19, 20, 0, .istore_n 3), (20, 21, 0, .iload_n 2), (21, 23, 0, .istore 4), (23, 25, 0, .iload 4), (25, 26, 0, .iload_n 3), (26, 29, 95, .if_icmp .ge 69), (29, 30, 0, .aload_n 0), (30, 33, 0, .getfield 15), (33, 36, 0, .getfield 74), (36, 37, 0, .iload_n 1), (37, 38, 0, .aaload), (38, 40, 0, .iload 4), (40, 41, 0, .iaload), (41, 43, 0, .istore 5), (43, 44, 0, .aload_n 0), (44, 47, 0, .getfield 27), (47, 49, 0, .iload 5), (49, 50, 0, .iconst 5), (50, 53, 0, .invokevirtual 81), (53, 54, 0, .aload_n 0), (54, 57, 0, .getfield 27), (57, 60, 0, .getfield 158), (60, 62, 0, .iload 5), (62, 63, 0, .aload_n 0), (63, 66, 0, .getfield 47), (66, 67, 0, .iastore), (67, 68, 0, .aload_n 0), (68, 71, 0, .getfield 23), (71, 74, 0, .getfield 196), (74, 75, 0, .aload_n 0), (75, 78, 0, .getfield 27), (78, 81, 0, .getfield 149), (81, 83, 0, .iload 5), (83, 84, 0, .iaload), (84, 85, 0, .dup2), (85, 86, 0, .iaload), (86, 87, 0, .iconst 1), (87, 88, 0, .iadd), (88, 89, 0, .iastore), (89, 92, 0, .iinc 4 1), (92, 95, 23, .goto (-69)), (95, 96, 0, .aload_n 0), (96, 99, 0, .getfield 15), (99, 102, 0, .getfield 139), (102, 103, 0, .iload_n 1), (103, 104, 0, .iload_n 3), (104, 105, 0, .iastore), (105, 106, 0, .aload_n 0), (106, 109, 0, .getfield 15), (109, 112, 0, .getfield 115), (112, 113, 0, .iload_n 1), (113, 114, 0, .iload_n 3), (114, 115, 0, .iastore), (115, 116, 0, .iload_n 3), (116, 117, 0, .iload_n 2), (117, 118, 0, .isub), (118, 119, 0, .ireturn)]
def mX5_loseLetters : Mt := (yX5_loseLetters, cX5_loseLetters, 6, (some .int), flX5, tX5_loseLetters)
theorem tX5_loseLetters_ok : ∀ e ∈ tX5_loseLetters, rowOk cX5_loseLetters e := by decide +kernel
theorem mX5_loseLetters_ok : mtOk mX5_loseLetters := ⟨by decide +kernel, tX5_loseLetters_ok, flX5_ok, by decide, lw_gm 530 (by decide +kernel) rfl⟩
def tX5_upLinkWithFewestBuckets : List Row := [(0, 2, 0, .bipush (-6)), (2, 3, 0, .istore_n 1), (3, 5, 0, .bipush 9), (5, 6, 0, .istore_n 2), (6, 7, 0, .iconst 0), (7, 8, 0, .istore_n 3), (8, 9, 0, .iload_n 3), (9, 10, 0, .aload_n 0), (10, 13, 0, .getfield 15), (13, 16, 0, .getfield 91), (16, 19, 58, .if_icmp .ge 42), (19, 20, 0, .aload_n 0), (20, 23, 0, .getfield 19), (23, 24, 0, .iload_n 3), (24, 27, 0, .invokevirtual 199), (27, 29, 0, .istore 4), (29, 30, 0, .aload_n 0), (30, 33, 0, .getfield 15), (33, 36, 0, .getfield 92), (36, 37, 0, .iload_n 3), (37, 38, 0, .baload), (38, 41, 52, .ifCond .eq 14), (41, 43, 0, .iload 4), (43, 44, 0, .iload_n 2), (44, 47, 52, .if_icmp .ge 8), (47, 48, 0, .iload_n 3), (48, 49, 0, .istore_n 1), (49, 51, 0, .iload 4), (51, 52, 0, .istore_n 2), (52, 55, 0, .iinc 3 1), (55, 58, 8, .goto (-47)), (58, 59, 0, .iload_n 1), (59, 60, 0, .ireturn)]
def mX5_upLinkWithFewestBuckets : Mt := (yX5_upLinkWithFewestBuckets, cX5_upLinkWithFewestBuckets, 5, (some .int), flX5, tX5_upLinkWithFewestBuckets)
theorem tX5_upLinkWithFewestBuckets_ok : ∀ e ∈ tX5_upLinkWithFewestBuckets, rowOk cX5_upLinkWithFewestBuckets e := by decide +kernel
theorem mX5_upLinkWithFewestBuckets_ok : mtOk mX5_upLinkWithFewestBuckets := ⟨by decide +kernel, tX5_upLinkWithFewestBuckets_ok, flX5_ok, by decide, lw_gm 535 (by decide +kernel) rfl⟩
def tX0_howManyOn : List Row := [(0, 1, 0, .iconst 0), (1, 2, 0, .istore_n 2), (2, 3, 0, .iconst 0), (3, 4, 0, .istore_n 3), (4, 5, 0, .iload_n 3), (5, 7, 0, .bipush 8), (7, 10, 29, .if_icmp .ge 22), (10, 11, 0, .aload_n 0), (11, 14, 0, .getfield 9), (14, 15, 0, .iload_n 3), (15, 16, 0, .iaload), (16, 17, 0, .iload_n 1), (17, 20, 23, .if_icmp .ne 6), (20, 23, 0, .iinc 2 1), (23, 26, 0, .iinc 3 1), (26, 29, 4, .goto (-22)), (29, 30, 0, .iload_n 2), (30, 31, 0, .ireturn)]
def mX0_howManyOn : Mt := (yX0_howManyOn, cX0_howManyOn, 4, (some .int), flX0, tX0_howManyOn)
theorem tX0_howManyOn_ok : ∀ e ∈ tX0_howManyOn, rowOk cX0_howManyOn e := by decide +kernel
theorem mX0_howManyOn_ok : mtOk mX0_howManyOn := ⟨by decide +kernel, tX0_howManyOn_ok, flX0_ok, by decide, lw_gm 539 (by decide +kernel) rfl⟩
def tX6_back : List Row := [(0, 1, 0, .iload_n 1), (1, 2, 0, .aload_n 0), (2, 5, 0, .getfield 10), (5, 8, 0, .getfield 59), (8, 11, 0, .invokestatic 74), (11, 14, 16, .ifCond .ne 5), (14, 15, 0, .iconst (-1)), (15, 16, 0, .ireturn), (16, 17, 0, .aload_n 0), (17, 20, 0, .getfield 10), (20, 23, 0, .getfield 129), (23, 24, 0, .iload_n 1), (24, 25, 0, .baload), (25, 28, 31, .ifCond .eq 6), (28, 30, 0, .bipush (-3)), (30, 31, 0, .ireturn), (31, 32, 0, .aload_n 0), (32, 35, 0, .getfield 10), (35, 38, 0, .getfield 129), (38, 39, 0, .iload_n 1), (39, 40, 0, .iconst 1), (40, 41, 0, .bastore), (41, 42, 0, .aload_n 0), (42, 45, 0, .getfield 42), (45, 46, 0, .iload_n 1), (46, 49, 0, .invokevirtual 67), (49, 50, 0, .ireturn)]
def mX6_back : Mt := (yX6_back, cX6_back, 2, (some .int), flX6, tX6_back)
theorem tX6_back_ok : ∀ e ∈ tX6_back, rowOk cX6_back e := by decide +kernel
theorem mX6_back_ok : mtOk mX6_back := ⟨by decide +kernel, tX6_back_ok, flX6_ok, by decide, lw_gm 543 (by decide +kernel) rfl⟩
def tX6_letter : List Row := [(0, 1, 0, .iload_n 1), (1, 2, 0, .aload_n 0), (2, 5, 0, .getfield 33), (5, 8, 0, .getfield 109), (8, 11, 0, .invokestatic 74), (11, 14, 16, .ifCond .ne 5), (14, 15, 0, .iconst (-1)), (15, 16, 0, .ireturn), (16, 17, 0, .iload_n 2), (17, 68, 0, .tableswitch 141 0 8 #[51, 61, 71, 81, 91, 101, 111, 121, 131]), (68, 69, 0, .aload_n 0), (69, 72, 0, .getfield 33), (72, 75, 0, .getfield 145), (75, 76, 0, .iload_n 1), (76, 77, 0, .iaload), (77, 78, 0, .ireturn), (78, 79, 0, .aload_n 0), (79, 82, 0, .getfield 33), (82, 85, 0, .getfield 148), (85, 86, 0, .iload_n 1), (86, 87, 0, .iaload), (87, 88, 0, .ireturn), (88, 89, 0, .aload_n 0), (89, 92, 0, .getfield 33), (92, 95, 0, .getfield 151), (95, 96, 0, .iload_n 1), (96, 97, 0, .iaload), (97, 98, 0, .ireturn), (98, 99, 0, .aload_n 0), (99, 102, 0, .getfield 33), (102, 105, 0, .getfield 154), (105, 106, 0, .iload_n 1), (106, 107, 0, .iaload), (107, 108, 0, .ireturn), (108, 109, 0, .aload_n 0), (109, 112, 0, .getfield 33), (112, 115, 0, .getfield 157), (115, 116, 0, .iload_n 1), (116, 117, 0, .iaload), (117, 118, 0, .ireturn), (118, 119, 0, .aload_n 0), (119, 122, 0, .getfield 33), (122, 125, 0, .getfield 160), (125, 126, 0, .iload_n 1), (126, 127, 0, .iaload), (127, 128, 0, .ireturn), (128, 129, 0, .aload_n 0), (129, 132, 0, .getfield 33), (132, 135, 0, .getfield 163), (135, 136, 0, .iload_n 1), (136, 137, 0, .iaload), (137, 138, 0, .ireturn), (138, 139, 0, .aload_n 0), (139, 142, 0, .getfield 33), (142, 145, 0, .getfield 166), (145, 146, 0, .iload_n 1), (146, 147, 0, .iaload), (147, 148, 0, .ireturn), (148, 149, 0, .aload_n 0), (149, 152, 0, .getfield 33), (152, 155, 0, .getfield 169), (155, 156, 0, .iload_n 1), (156, 157, 0, .iaload), (157, 158, 0, .ireturn), (158, 160, 0, .bipush (-2)), (160, 161, 0, .ireturn)]
def mX6_letter : Mt := (yX6_letter, cX6_letter, 3, (some .int), flX6, tX6_letter)
theorem tX6_letter_ok : ∀ e ∈ tX6_letter, rowOk cX6_letter e := by decide +kernel
theorem mX6_letter_ok : mtOk mX6_letter := ⟨by decide +kernel, tX6_letter_ok, flX6_ok, by decide, lw_gm 547 (by decide +kernel) rfl⟩
def tX6_about : List Row := [(0, 1, 0, .iload_n 1), (1, 2, 0, .aload_n 0), (2, 5, 0, .getfield 10), (5, 8, 0, .getfield 59), (8, 11, 0, .invokestatic 74), (11, 14, 16, .ifCond .ne 5), (14, 15, 0, .iconst (-1)), (15, 16, 0, .ireturn), (16, 17, 0, .iload_n 2), (17, 64, 0, .tableswitch 148 0 7 #[47, 57, 67, 80, 100, 120, 129, 138]), (64, 65, 0, .aload_n 0), (65, 68, 0, .getfield 10), (68, 71, 0, .getfield 172), (71, 72, 0, .iload_n 1), (72, 73, 0, .iaload), (73, 74, 0, .ireturn), (74, 75, 0, .aload_n 0), (75, 78, 0, .getfield 10), (78, 81, 0, .getfield 175), (81, 82, 0, .iload_n 1), (82, 83, 0, .iaload), (83, 84, 0, .ireturn), (84, 85, 0, .aload_n 0), (85, 88, 0, .getfield 10), (88, 91, 0, .getfield 129), (91, 92, 0, .iload_n 1), (92, 93, 0, .baload), (93, 96, 0, .invokestatic 105), (96, 97, 0, .ireturn), (97, 98, 0, .aload_n 0), (98, 101, 0, .getfield 10), (101, 104, 0, .getfield 178), (104, 105, 0, .iload_n 1), (105, 106, 0, .iaload), (106, 107, 0, .aload_n 0), (107, 110, 0, .getfield 10), (110, 113, 0, .getfield 181), (113, 114, 0, .iload_n 1), (114, 115, 0, .iaload), (115, 116, 0, .isub), (116, 117, 0, .ireturn), (117, 118, 0, .aload_n 0), (118, 121, 0, .getfield 10), (121, 124, 0, .getfield 181), (124, 125, 0, .iload_n 1), (125, 126, 0, .iaload), (126, 127, 0, .aload_n 0), (127, 130, 0, .getfield 10), (130, 133, 0, .getfield 184), (133, 134, 0, .iload_n 1), (134, 135, 0, .iaload), (135, 136, 0, .isub), (136, 137, 0, .ireturn), (137, 138, 0, .aload_n 0), (138, 141, 0, .getfield 19), (141, 142, 0, .iload_n 1), (142, 145, 0, .invokevirtual 187), (145, 146, 0, .ireturn), (146, 147, 0, .aload_n 0), (147, 150, 0, .getfield 51), (150, 151, 0, .iload_n 1), (151, 154, 0, .invokevirtual 190), (154, 155, 0, .ireturn), (155, 156, 0, .aload_n 0), (156, 159, 0, .getfield 10), (159, 162, 0, .getfield 193), (162, 163, 0, .iload_n 1), (163, 164, 0, .iaload), (164, 165, 0, .ireturn), (165, 167, 0, .bipush (-2)), (167, 168, 0, .ireturn)]
def mX6_about : Mt := (yX6_about, cX6_about, 3, (some .int), flX6, tX6_about)
theorem tX6_about_ok : ∀ e ∈ tX6_about, rowOk cX6_about e := by decide +kernel
theorem mX6_about_ok : mtOk mX6_about := ⟨by decide +kernel, tX6_about_ok, flX6_ok, by decide, lw_gm 551 (by decide +kernel) rfl⟩
def tX4_loadOf : List Row := [(0, 1, 0, .iconst 0), (1, 2, 0, .istore_n 2), (2, 3, 0, .iconst 0), (3, 4, 0, .istore_n 3), (4, 5, 0, .iload_n 3), (5, 6, 0, .aload_n 0), (6, 9, 0, .getfield 32), (9, 12, 0, .getfield 36), (12, 15, 53, .if_icmp .ge 41), (15, 16, 0, .aload_n 0), (16, 19, 0, .getfield 28), (19, 22, 0, .getfield 42), (22, 23, 0, .aload_n 0), (23, 26, 0, .getfield 32), (26, 27, 0, .iload_n 3), (27, 30, 0, .invokevirtual 47), (30, 31, 0, .iaload), (31, 32, 0, .iload_n 1), (32, 35, 47, .if_icmp .ne 15), (35, 36, 0, .iload_n 2), (36, 37, 0, .aload_n 0), (37, 40, 0, .getfield 32), (40, 43, 0, .getfield 51), (43, 44, 0, .iload_n 3), (44, 45, 0, .iaload), (45, 46, 0, .iadd), (46, 47, 0, .istore_n 2), (47, 50, 0, .iinc 3 1), (50, 53, 4, .goto (-46)), (53, 54, 0, .iload_n 2), (54, 55, 0, .ireturn)]
def mX4_loadOf : Mt := (yX4_loadOf, cX4_loadOf, 4, (some .int), flX4, tX4_loadOf)
theorem tX4_loadOf_ok : ∀ e ∈ tX4_loadOf, rowOk cX4_loadOf e := by decide +kernel
theorem mX4_loadOf_ok : mtOk mX4_loadOf := ⟨by decide +kernel, tX4_loadOf_ok, flX4_ok, by decide, lw_gm 556 (by decide +kernel) rfl⟩
def tX6_bucket : List Row := [(0, 1, 0, .iload_n 1), (1, 3, 0, .bipush 8), (3, 6, 0, .invokestatic 74), (6, 9, 11, .ifCond .ne 5), (9, 10, 0, .iconst (-1)), (10, 11, 0, .ireturn), (11, 12, 0, .iload_n 2), (12, 52, 0, .tableswitch 102 0 5 #[40, 50, 60, 73, 83, 92]), (52, 53, 0, .aload_n 0), (53, 56, 0, .getfield 19), (56, 59, 0, .getfield 123), (59, 60, 0, .iload_n 1), (60, 61, 0, .iaload), (61, 62, 0, .ireturn), (62, 63, 0, .aload_n 0), (63, 66, 0, .getfield 19), (66, 69, 0, .getfield 136), (69, 70, 0, .iload_n 1), (70, 71, 0, .iaload), (71, 72, 0, .ireturn), (72, 73, 0, .aload_n 0), (73, 76, 0, .getfield 19), (76, 79, 0, .getfield 196), (79, 80, 0, .iload_n 1), (80, 81, 0, .baload), (81, 84, 0, .invokestatic 105), (84, 85, 0, .ireturn), (85, 86, 0, .aload_n 0), (86, 89, 0, .getfield 19), (89, 92, 0, .getfield 199), (92, 93, 0, .iload_n 1), (93, 94, 0, .iaload), (94, 95, 0, .ireturn), (95, 96, 0, .aload_n 0), (96, 99, 0, .getfield 26), (99, 100, 0, .iload_n 1), (100, 103, 0, .invokevirtual 202), (103, 104, 0, .ireturn), (104, 105, 0, .aload_n 0), (105, 108, 0, .getfield 19), (108, 111, 0, .getfield 205), (111, 112, 0, .iload_n 1), (112, 113, 0, .iaload), (113, 114, 0, .ireturn), (114, 116, 0, .bipush (-2)), (116, 117, 0, .ireturn)]
def mX6_bucket : Mt := (yX6_bucket, cX6_bucket, 3, (some .int), flX6, tX6_bucket)
theorem tX6_bucket_ok : ∀ e ∈ tX6_bucket, rowOk cX6_bucket e := by decide +kernel
theorem mX6_bucket_ok : mtOk mX6_bucket := ⟨by decide +kernel, tX6_bucket_ok, flX6_ok, by decide, lw_gm 561 (by decide +kernel) rfl⟩
def tX1_rateOfBucket : List Row := [(0, 1, 0, .iconst 0), (1, 2, 0, .istore_n 2), (2, 3, 0, .iconst 0), (3, 4, 0, .istore_n 3), (4, 5, 0, .iload_n 3), (5, 6, 0, .aload_n 0), (6, 9, 0, .getfield 41), (9, 12, 36, .if_icmp .ge 27), (12, 13, 0, .aload_n 0), (13, 14, 0, .iload_n 3), (14, 17, 0, .invokevirtual 44), (17, 18, 0, .iload_n 1), (18, 21, 30, .if_icmp .ne 12), (21, 22, 0, .iload_n 2), (22, 23, 0, .aload_n 0), (23, 26, 0, .getfield 18), (26, 27, 0, .iload_n 3), (27, 28, 0, .iaload), (28, 29, 0, .iadd), (29, 30, 0, .istore_n 2), (30, 33, 0, .iinc 3 1), (33, 36, 4, .goto (-29)), (36, 37, 0, .iload_n 2), (37, 38, 0, .ireturn)]
def mX1_rateOfBucket : Mt := (yX1_rateOfBucket, cX1_rateOfBucket, 4, (some .int), flX1, tX1_rateOfBucket)
theorem tX1_rateOfBucket_ok : ∀ e ∈ tX1_rateOfBucket, rowOk cX1_rateOfBucket e := by decide +kernel
theorem mX1_rateOfBucket_ok : mtOk mX1_rateOfBucket := ⟨by decide +kernel, tX1_rateOfBucket_ok, flX1_ok, by decide, lw_gm 565 (by decide +kernel) rfl⟩
def tX6_ofFlow : List Row := [(0, 1, 0, .iload_n 1), (1, 2, 0, .aload_n 0), (2, 5, 0, .getfield 26), (5, 8, 0, .getfield 71), (8, 11, 0, .invokestatic 74), (11, 14, 16, .ifCond .ne 5), (14, 15, 0, .iconst (-1)), (15, 16, 0, .ireturn), (16, 17, 0, .iload_n 2), (17, 56, 0, .tableswitch 110 0 5 #[39, 49, 58, 68, 78, 88]), (56, 57, 0, .aload_n 0), (57, 60, 0, .getfield 26), (60, 63, 0, .getfield 78), (63, 64, 0, .iload_n 1), (64, 65, 0, .iaload), (65, 66, 0, .ireturn), (66, 67, 0, .aload_n 0), (67, 70, 0, .getfield 26), (70, 71, 0, .iload_n 1), (71, 74, 0, .invokevirtual 86), (74, 75, 0, .ireturn), (75, 76, 0, .aload_n 0), (76, 79, 0, .getfield 26), (79, 82, 0, .getfield 208), (82, 83, 0, .iload_n 1), (83, 84, 0, .iaload), (84, 85, 0, .ireturn), (85, 86, 0, .aload_n 0), (86, 89, 0, .getfield 26), (89, 92, 0, .getfield 211), (92, 93, 0, .iload_n 1), (93, 94, 0, .iaload), (94, 95, 0, .ireturn), (95, 96, 0, .aload_n 0), (96, 99, 0, .getfield 26), (99, 102, 0, .getfield 214), (102, 103, 0, .iload_n 1), (103, 104, 0, .iaload), (104, 105, 0, .ireturn), (105, 106, 0, .aload_n 0), (106, 109, 0, .getfield 26), (109, 112, 0, .getfield 89), (112, 113, 0, .iload_n 1), (113, 114, 0, .iaload), (114, 115, 0, .iconst (-1)), (115, 118, 122, .if_icmp .eq 7), (118, 119, 0, .iconst 1), (119, 122, 123, .goto 4), (122, 123, 0, .iconst 0), (123, 126, 0, .invokestatic 105), (126, 127, 0, .ireturn), (127, 129, 0, .bipush (-2)), (129, 130, 0, .ireturn)]
def mX6_ofFlow : Mt := (yX6_ofFlow, cX6_ofFlow, 3, (some .int), flX6, tX6_ofFlow)
theorem tX6_ofFlow_ok : ∀ e ∈ tX6_ofFlow, rowOk cX6_ofFlow e := by decide +kernel
theorem mX6_ofFlow_ok : mtOk mX6_ofFlow := ⟨by decide +kernel, tX6_ofFlow_ok, flX6_ok, by decide, lw_gm 570 (by decide +kernel) rfl⟩
def tX6_out : List Row := [(0, 1, 0, .iload_n 1), (1, 2, 0, .aload_n 0), (2, 5, 0, .getfield 33), (5, 8, 0, .getfield 217), (8, 9, 0, .iconst 4), (9, 10, 0, .iaload), (10, 13, 0, .invokestatic 74), (13, 16, 28, .ifCond .eq 15), (16, 17, 0, .aload_n 0), (17, 20, 0, .getfield 33), (20, 23, 0, .getfield 220), (23, 24, 0, .iload_n 1), (24, 25, 0, .iaload), (25, 28, 30, .goto 5), (28, 30, 0, .bipush (-6)), (30, 31, 0, .ireturn)]
def mX6_out : Mt := (yX6_out, cX6_out, 2, (some .int), flX6, tX6_out)
theorem tX6_out_ok : ∀ e ∈ tX6_out, rowOk cX6_out e := by decide +kernel
theorem mX6_out_ok : mtOk mX6_out := ⟨by decide +kernel, tX6_out_ok, flX6_ok, by decide, lw_gm 574 (by decide +kernel) rfl⟩
def tX6_ordered : List Row := [(0, 1, 0, .iload_n 1), (1, 2, 0, .aload_n 0), (2, 5, 0, .getfield 26), (5, 8, 0, .getfield 71), (8, 11, 0, .invokestatic 74), (11, 14, 16, .ifCond .ne 5), (14, 15, 0, .iconst (-1)), (15, 16, 0, .ireturn), (16, 17, 0, .aload_n 0), (17, 20, 0, .getfield 26), (20, 23, 0, .getfield 223), (23, 24, 0, .iload_n 1), (24, 25, 0, .baload), (25, 28, 32, .ifCond .ne 7), (28, 29, 0, .iconst 1), (29, 32, 33, .goto 4), (32, 33, 0, .iconst 0), (33, 36, 0, .invokestatic 105), (36, 37, 0, .ireturn)]
def mX6_ordered : Mt := (yX6_ordered, cX6_ordered, 2, (some .int), flX6, tX6_ordered)
theorem tX6_ordered_ok : ∀ e ∈ tX6_ordered, rowOk cX6_ordered e := by decide +kernel
theorem mX6_ordered_ok : mtOk mX6_ordered := ⟨by decide +kernel, tX6_ordered_ok, flX6_ok, by decide, lw_gm 578 (by decide +kernel) rfl⟩
def tX6_told : List Row := [(0, 1, 0, .iload_n 1), (1, 60, 0, .tableswitch 162 0 10 #[59, 67, 75, 83, 91, 101, 111, 121, 131, 141, 151]), (60, 61, 0, .aload_n 0), (61, 64, 0, .getfield 42), (64, 67, 0, .getfield 114), (67, 68, 0, .ireturn), (68, 69, 0, .aload_n 0), (69, 72, 0, .getfield 10), (72, 75, 0, .getfield 59), (75, 76, 0, .ireturn), (76, 77, 0, .aload_n 0), (77, 80, 0, .getfield 26), (80, 83, 0, .getfield 71), (83, 84, 0, .ireturn), (84, 85, 0, .aload_n 0), (85, 88, 0, .getfield 33), (88, 91, 0, .getfield 109), (91, 92, 0, .ireturn), (92, 93, 0, .aload_n 0), (93, 96, 0, .getfield 33), (96, 99, 0, .getfield 217), (99, 100, 0, .iconst 0), (100, 101, 0, .iaload), (101, 102, 0, .ireturn), (102, 103, 0, .aload_n 0), (103, 106, 0, .getfield 33), (106, 109, 0, .getfield 217), (109, 110, 0, .iconst 1), (110, 111, 0, .iaload), (111, 112, 0, .ireturn), (112, 113, 0, .aload_n 0), (113, 116, 0, .getfield 33), (116, 119, 0, .getfield 217), (119, 120, 0, .iconst 2), (120, 121, 0, .iaload), (121, 122, 0, .ireturn), (122, 123, 0, .aload_n 0), (123, 126, 0, .getfield 33), (126, 129, 0, .getfield 217), (129, 130, 0, .iconst 3), (130, 131, 0, .iaload), (131, 132, 0, .ireturn), (132, 133, 0, .aload_n 0), (133, 136, 0, .getfield 33), (136, 139, 0, .getfield 217), (139, 140, 0, .iconst 4), (140, 141, 0, .iaload), (141, 142, 0, .ireturn), (142, 143, 0, .aload_n 0), (143, 146, 0, .getfield 33), (146, 149, 0, .getfield 217), (149, 150, 0, .iconst 5), (150, 151, 0, .iaload), (151, 152, 0, .ireturn), (152, 153, 0, .aload_n 0), (153, 156, 0, .getfield 42), (156, 159, 0, .getfield 101), (159, 162, 0, .invokestatic 105), (162, 163, 0, .ireturn), (163, 165, 0, .bipush (-2)), (165, 166, 0, .ireturn)]
def mX6_told : Mt := (yX6_told, cX6_told, 2, (some .int), flX6, tX6_told)
theorem tX6_told_ok : ∀ e ∈ tX6_told, rowOk cX6_told e := by decide +kernel
theorem mX6_told_ok : mtOk mX6_told := ⟨by decide +kernel, tX6_told_ok, flX6_ok, by decide, lw_gm 582 (by decide +kernel) rfl⟩
def tX6_even : List Row := [(0, 1, 0, .iload_n 1), (1, 2, 0, .iconst 0), (2, 5, 0, .sipush 1000), (5, 8, 0, .invokestatic 55), (8, 11, 14, .ifCond .ne 6), (11, 13, 0, .bipush (-2)), (13, 14, 0, .ireturn), (14, 15, 0, .aload_n 0), (15, 18, 0, .getfield 10), (18, 21, 0, .invokevirtual 226), (21, 24, 27, .ifCond .ne 6), (24, 26, 0, .bipush (-3)), (26, 27, 0, .ireturn), (27, 28, 0, .aload_n 0), (28, 31, 0, .getfield 51), (31, 32, 0, .iload_n 1), (32, 35, 0, .invokevirtual 229), (35, 38, 0, .invokestatic 105), (38, 39, 0, .ireturn)]
def mX6_even : Mt := (yX6_even, cX6_even, 2, (some .int), flX6, tX6_even)
theorem tX6_even_ok : ∀ e ∈ tX6_even, rowOk cX6_even e := by decide +kernel
theorem mX6_even_ok : mtOk mX6_even := ⟨by decide +kernel, tX6_even_ok, flX6_ok, by decide, lw_gm 586 (by decide +kernel) rfl⟩
def tX3_isAnyUp : List Row := [(0, 1, 0, .iconst 0), (1, 2, 0, .istore_n 1), (2, 3, 0, .iload_n 1), (3, 4, 0, .aload_n 0), (4, 7, 0, .getfield 39), (7, 10, 27, .if_icmp .ge 20), (10, 11, 0, .aload_n 0), (11, 14, 0, .getfield 18), (14, 15, 0, .iload_n 1), (15, 16, 0, .baload), (16, 19, 21, .ifCond .eq 5), (19, 20, 0, .iconst 1), (20, 21, 0, .ireturn), (21, 24, 0, .iinc 1 1), (24, 27, 2, .goto (-22)), (27, 28, 0, .iconst 0), (28, 29, 0, .ireturn)]
def mX3_isAnyUp : Mt := (yX3_isAnyUp, cX3_isAnyUp, 2, (some .boolean), flX3, tX3_isAnyUp)
theorem tX3_isAnyUp_ok : ∀ e ∈ tX3_isAnyUp, rowOk cX3_isAnyUp e := by decide +kernel
theorem mX3_isAnyUp_ok : mtOk mX3_isAnyUp := ⟨by decide +kernel, tX3_isAnyUp_ok, flX3_ok, by decide, lw_gm 590 (by decide +kernel) rfl⟩
def tX4_isEven : List Row := [(0, 1, 0, .aload_n 0), (1, 2, 0, .iload_n 1), (2, 5, 0, .invokevirtual 54), (5, 6, 0, .iconst 0), (6, 7, 0, .istore_n 2), (7, 8, 0, .iload_n 2), (8, 9, 0, .aload_n 0), (9, 12, 0, .getfield 24), (12, 15, 0, .getfield 58), (15, 18, 51, .if_icmp .ge 36), (18, 19, 0, .aload_n 0), (19, 22, 0, .getfield 24), (22, 25, 0, .getfield 61), (25, 26, 0, .iload_n 2), (26, 27, 0, .baload), (27, 30, 45, .ifCond .eq 18), (30, 31, 0, .aload_n 0), (31, 32, 0, .iload_n 2), (32, 33, 0, .aload_n 0), (33, 34, 0, .iload_n 2), (34, 37, 0, .invokevirtual 65), (37, 40, 0, .invokevirtual 68), (40, 43, 45, .ifCond .ne 5), (43, 44, 0, .iconst 0), (44, 45, 0, .ireturn), (45, 48, 0, .iinc 2 1), (48, 51, 7, .goto (-41)), (51, 52, 0, .iconst 1), (52, 53, 0, .ireturn)]
def mX4_isEven : Mt := (yX4_isEven, cX4_isEven, 3, (some .boolean), flX4, tX4_isEven)
theorem tX4_isEven_ok : ∀ e ∈ tX4_isEven, rowOk cX4_isEven e := by decide +kernel
theorem mX4_isEven_ok : mtOk mX4_isEven := ⟨by decide +kernel, tX4_isEven_ok, flX4_ok, by decide, lw_gm 594 (by decide +kernel) rfl⟩
def tX4_measure : List Row := [(0, 1, 0, .aload_n 0), (1, 2, 0, .iload_n 1), (2, 5, 0, .putfield 72), (5, 6, 0, .aload_n 0), (6, 7, 0, .iconst 0), (7, 10, 0, .putfield 75), (10, 11, 0, .aload_n 0), (11, 12, 0, .iconst 0), (12, 15, 0, .putfield 78), (15, 16, 0, .iconst 0), (16, 17, 0, .istore_n 2), (17, 18, 0, .iload_n 2), (18, 19, 0, .aload_n 0), (19, 22, 0, .getfield 24), (22, 25, 0, .getfield 58), (25, 28, 81, .if_icmp .ge 56), (28, 29, 0, .aload_n 0), (29, 32, 0, .getfield 24), (32, 35, 0, .getfield 61), (35, 36, 0, .iload_n 2), (36, 37, 0, .baload), (37, 40, 43, .ifCond .ne 6), (40, 43, 75, .goto 35), (43, 44, 0, .aload_n 0), (44, 45, 0, .dup), (45, 48, 0, .getfield 75), (48, 49, 0, .aload_n 0), (49, 52, 0, .getfield 24), (52, 55, 0, .getfield 81), (55, 56, 0, .iload_n 2), (56, 57, 0, .iaload), (57, 58, 0, .iadd), (58, 61, 0, .putfield 75), (61, 62, 0, .aload_n 0), (62, 63, 0, .dup), (63, 66, 0, .getfield 78), (66, 67, 0, .aload_n 0), (67, 68, 0, .iload_n 2), (68, 71, 0, .invokevirtual 65), (71, 72, 0, .iadd), (72, 75, 0, .putfield 78), (75, 78, 0, .iinc 2 1), (78, 81, 17, .goto (-61)), (81, 82, 0, .return_)]
def mX4_measure : Mt := (yX4_measure, cX4_measure, 3, none, flX4, tX4_measure)
theorem tX4_measure_ok : ∀ e ∈ tX4_measure, rowOk cX4_measure e := by decide +kernel
theorem mX4_measure_ok : mtOk mX4_measure := ⟨by decide +kernel, tX4_measure_ok, flX4_ok, by decide, lw_gm 598 (by decide +kernel) rfl⟩
def tX4_isWithinShare : List Row := [(0, 1, 0, .iload_n 2), (1, 2, 0, .aload_n 0), (2, 5, 0, .getfield 75), (5, 6, 0, .imul), (6, 8, 0, .bipush 100), (8, 9, 0, .imul), (9, 11, 0, .bipush 100), (11, 12, 0, .aload_n 0), (12, 15, 0, .getfield 72), (15, 16, 0, .iadd), (16, 17, 0, .aload_n 0), (17, 20, 0, .getfield 78), (20, 21, 0, .imul), (21, 22, 0, .aload_n 0), (22, 25, 0, .getfield 24), (25, 28, 0, .getfield 81), (28, 29, 0, .iload_n 1), (29, 30, 0, .iaload), (30, 31, 0, .imul), (31, 34, 38, .if_icmp .gt 7), (34, 35, 0, .iconst 1), (35, 38, 39, .goto 4), (38, 39, 0, .iconst 0), (39, 40, 0, .ireturn)]
def mX4_isWithinShare : Mt := (yX4_isWithinShare, cX4_isWithinShare, 3, (some .boolean), flX4, tX4_isWithinShare)
theorem tX4_isWithinShare_ok : ∀ e ∈ tX4_isWithinShare, rowOk cX4_isWithinShare e := by decide +kernel
theorem mX4_isWithinShare_ok : mtOk mX4_isWithinShare := ⟨by decide +kernel, tX4_isWithinShare_ok, flX4_ok, by decide, lw_gm 603 (by decide +kernel) rfl⟩
def tX6_least : List Row := [(0, 1, 0, .iload_n 1), (1, 2, 0, .iconst 0), (2, 5, 0, .sipush 1000), (5, 8, 0, .invokestatic 55), (8, 11, 14, .ifCond .ne 6), (11, 13, 0, .bipush (-2)), (13, 14, 0, .ireturn), (14, 15, 0, .aload_n 0), (15, 18, 0, .getfield 10), (18, 21, 0, .invokevirtual 226), (21, 24, 27, .ifCond .ne 6), (24, 26, 0, .bipush (-3)), (26, 27, 0, .ireturn), (27, 28, 0, .aload_n 0), (28, 31, 0, .getfield 51), (31, 32, 0, .iload_n 1), (32, 35, 0, .invokevirtual 232), (35, 36, 0, .ireturn)]
def mX6_least : Mt := (yX6_least, cX6_least, 2, (some .int), flX6, tX6_least)
theorem tX6_least_ok : ∀ e ∈ tX6_least, rowOk cX6_least e := by decide +kernel
theorem mX6_least_ok : mtOk mX6_least := ⟨by decide +kernel, tX6_least_ok, flX6_ok, by decide, lw_gm 607 (by decide +kernel) rfl⟩
def tX4_fewestMoves : List Row := [(0, 1, 0, .aload_n 0), (1, 2, 0, .iload_n 1), (2, 5, 0, .invokevirtual 54), (5, 6, 0, .iconst 0), (6, 7, 0, .istore_n 2), (7, 8, 0, .iload_n 2), (8, 10, 0, .bipush 8), (10, 13, 33, .if_icmp .ge 23), (13, 14, 0, .aload_n 0), (14, 17, 0, .getfield 15), (17, 18, 0, .iload_n 2), (18, 19, 0, .aload_n 0), (19, 22, 0, .getfield 32), (22, 23, 0, .iload_n 2), (23, 26, 0, .invokevirtual 84), (26, 27, 0, .iastore), (27, 30, 0, .iinc 2 1), (30, 33, 7, .goto (-23)), (33, 34, 0, .aload_n 0), (34, 36, 0, .bipush 9), (36, 39, 0, .putfield 87), (39, 40, 0, .aload_n 0), (40, 41, 0, .iconst 0), (41, 42, 0, .iconst 0), (42, 45, 0, .invokevirtual 90), (45, 46, 0, .aload_n 0), (46, 49, 0, .getfield 87), (49, 51, 0, .bipush 8), (51, 54, 61, .if_icmp .gt 10), (54, 55, 0, .aload_n 0), (55, 58, 0, .getfield 87), (58, 61, 63, .goto 5), (61, 63, 0, .bipush (-6)), (63, 64, 0, .ireturn)]
def mX4_fewestMoves : Mt := (yX4_fewestMoves, cX4_fewestMoves, 3, (some .int), flX4, tX4_fewestMoves)
theorem tX4_fewestMoves_ok : ∀ e ∈ tX4_fewestMoves, rowOk cX4_fewestMoves e := by decide +kernel
theorem mX4_fewestMoves_ok : mtOk mX4_fewestMoves := ⟨by decide +kernel, tX4_fewestMoves_ok, flX4_ok, by decide, lw_gm 611 (by decide +kernel) rfl⟩
def tX4_place : List Row := [(0, 1, 0, .iload_n 1), (1, 3, 0, .bipush 8), (3, 6, 12, .if_icmp .lt 9), (6, 7, 0, .aload_n 0), (7, 8, 0, .iload_n 2), (8, 11, 0, .invokevirtual 94), (11, 12, 0, .return_), (12, 13, 0, .aload_n 0), (13, 16, 0, .getfield 28), (16, 19, 0, .getfield 42), (19, 20, 0, .iload_n 1), (20, 21, 0, .iaload), (21, 22, 0, .istore_n 3), (22, 23, 0, .iload_n 3), (23, 25, 0, .bipush (-6)), (25, 28, 49, .if_icmp .eq 24), (28, 29, 0, .aload_n 0), (29, 32, 0, .getfield 24), (32, 35, 0, .getfield 61), (35, 36, 0, .iload_n 3), (36, 37, 0, .baload), (37, 40, 49, .ifCond .eq 12), (40, 41, 0, .aload_n 0), (41, 44, 0, .getfield 15), (44, 45, 0, .iload_n 1), (45, 46, 0, .iaload), (46, 49, 57, .ifCond .ne 11), (49, 50, 0, .aload_n 0), (50, 51, 0, .iload_n 3), (51, 52, 0, .iload_n 1), (52, 53, 0, .iload_n 2), (53, 56, 0, .invokevirtual 97), (56, 57, 0, .return_), (57, 58, 0, .iconst 0), (58, 60, 0, .istore 4), (60, 62, 0, .iload 4), (62, 63, 0, .aload_n 0), (63, 66, 0, .getfield 24), (66, 69, 0, .getfield 58), (69, 72, 175, .if_icmp .ge 106), (72, 74, 0, .iload 4), (74, 75, 0, .iload_n 3), (75, 78, 82, .if_icmp .ne 7), (78, 79, 0, .iload_n 2), (79, 82, 85, .goto 6), (82, 83, 0, .iload_n 2), (83, 84, 0, .iconst 1), (84, 85, 0, .iadd), (85, 87, 0, .istore 5), (87, 88, 0, .aload_n 0), (88, 91, 0, .getfield 24), (91, 94, 0, .getfield 61), (94, 96, 0, .iload 4), (96, 97, 0, .baload), (97, 100, 169, .ifCond .eq 72), (100, 102, 0, .iload 5), (102, 103, 0, .aload_n 0), (103, 106, 0, .getfield 87), (106, 109, 112, .if_icmp .lt 6), (109, 112, 169, .goto 60), (112, 113, 0, .aload_n 0), (113, 116, 0, .getfield 18), (116, 118, 0, .iload 4), (118, 119, 0, .dup2), (119, 120, 0, .iaload), (120, 121, 0, .aload_n 0), (121, 124, 0, .getfield 15), (124, 125, 0, .iload_n 1), (125, 126, 0, .iaload), (126, 127, 0, .iadd), (127, 128, 0, .iastore), (128, 129, 0, .aload_n 0), (129, 131, 0, .iload 4), (131, 132, 0, .aload_n 0), (132, 135, 0, .getfield 18), (135, 137, 0, .iload 4), (137, 138, 0, .iaload), (138, 141, 0, .invokevirtual 68), (141, 144, 153, .ifCond .eq 12), (144, 145, 0, .aload_n 0), (145, 147, 0, .iload 4), (147, 148, 0, .iload_n 1), (148, 150, 0, .iload 5), (150, 153, 0, .invokevirtual 97), (153, 154, 0, .aload_n 0), (154, 157, 0, .getfield 18), (157, 159, 0, .iload 4), (159, 160, 0, .dup2), (160, 161, 0, .iaload), (161, 162, 0, .aload_n 0), (162, 165, 0, .getfield 15), (165, 166, 0, .iload_n 1), (166, 167, 0, .iaload), (167, 168, 0, .isub), (168, 169, 0, .iastore), (169, 172, 0, .iinc 4 1), (172, 175, 60, .goto (-112)), (175, 176, 0, .return_)]
def mX4_place : Mt := (yX4_place, cX4_place, 6, none, flX4, tX4_place)
theorem tX4_place_ok : ∀ e ∈ tX4_place, rowOk cX4_place e := by decide +kernel
theorem mX4_place_ok : mtOk mX4_place := ⟨by decide +kernel, tX4_place_ok, flX4_ok, by decide, lw_gm 616 (by decide +kernel) rfl⟩
def tX4_keep : List Row := [(0, 1, 0, .aload_n 0), (1, 2, 0, .iload_n 1), (2, 5, 0, .putfield 87), (5, 6, 0, .aload_n 0), (6, 9, 0, .getfield 21), (9, 10, 0, .iconst 0), (10, 11, 0, .aload_n 0), (11, 14, 0, .getfield 9), (14, 15, 0, .iconst 0), (15, 17, 0, .bipush 8), (17, 20, 0, .invokestatic 101), (20, 21, 0, .aload_n 0), (21, 22, 0, .iconst 1), (22, 25, 0, .putfield 107), (25, 26, 0, .return_)]
def mX4_keep : Mt := (yX4_keep, cX4_keep, 2, none, flX4, tX4_keep)
theorem tX4_keep_ok : ∀ e ∈ tX4_keep, rowOk cX4_keep e := by decide +kernel
theorem mX4_keep_ok : mtOk mX4_keep := ⟨by decide +kernel, tX4_keep_ok, flX4_ok, by decide, lw_gm 620 (by decide +kernel) rfl⟩
def tX4_placeOn : List Row := [(0, 1, 0, .aload_n 0), (1, 4, 0, .getfield 21), (4, 5, 0, .iload_n 2), (5, 6, 0, .iload_n 1), (6, 7, 0, .iastore), (7, 8, 0, .aload_n 0), (8, 9, 0, .iload_n 2), (9, 10, 0, .iconst 1), (10, 11, 0, .iadd), (11, 12, 0, .iload_n 3), (12, 15, 0, .invokevirtual 90), (15, 16, 0, .return_)]
def mX4_placeOn : Mt := (yX4_placeOn, cX4_placeOn, 4, none, flX4, tX4_placeOn)
theorem tX4_placeOn_ok : ∀ e ∈ tX4_placeOn, rowOk cX4_placeOn e := by decide +kernel
theorem mX4_placeOn_ok : mtOk mX4_placeOn := ⟨by decide +kernel, tX4_placeOn_ok, flX4_ok, by decide, lw_gm 627 (by decide +kernel) rfl⟩
def tX6_plan : List Row := [(0, 1, 0, .iload_n 1), (1, 3, 0, .bipush 8), (3, 6, 0, .invokestatic 74), (6, 9, 11, .ifCond .ne 5), (9, 10, 0, .iconst (-1)), (10, 11, 0, .ireturn), (11, 12, 0, .aload_n 0), (12, 15, 0, .getfield 51), (15, 18, 0, .getfield 235), (18, 21, 24, .ifCond .ne 6), (21, 23, 0, .bipush (-3)), (23, 24, 0, .ireturn), (24, 25, 0, .aload_n 0), (25, 28, 0, .getfield 51), (28, 31, 0, .getfield 238), (31, 32, 0, .iload_n 1), (32, 33, 0, .iaload), (33, 34, 0, .ireturn)]
def mX6_plan : Mt := (yX6_plan, cX6_plan, 2, (some .int), flX6, tX6_plan)
theorem tX6_plan_ok : ∀ e ∈ tX6_plan, rowOk cX6_plan e := by decide +kernel
theorem mX6_plan_ok : mtOk mX6_plan := ⟨by decide +kernel, tX6_plan_ok, flX6_ok, by decide, lw_gm 631 (by decide +kernel) rfl⟩
end
section
/-! methods: rows, and that they are the code: by program -/
def tX7_link : List Row := [(0, 1, 0, .iload_n 1), (1, 2, 0, .iconst 1), (2, 4, 0, .bipush 8), (4, 7, 0, .invokestatic 96), (7, 10, 20, .ifCond .eq 13), (10, 11, 0, .iload_n 2), (11, 12, 0, .iconst 1), (12, 14, 0, .bipush 30), (14, 17, 0, .invokestatic 96), (17, 20, 23, .ifCond .ne 6), (20, 22, 0, .bipush (-2)), (22, 23, 0, .ireturn), (23, 24, 0, .aload_n 0), (24, 27, 0, .getfield 93), (27, 28, 0, .iconst 4), (28, 31, 34, .if_icmp .ne 6), (31, 33, 0, .bipush (-4)), (33, 34, 0, .ireturn), (34, 35, 0, .aload_n 0), (35, 38, 0, .getfield 7), (38, 39, 0, .aload_n 0), (39, 42, 0, .getfield 93), (42, 43, 0, .iload_n 1), (43, 44, 0, .iastore), (44, 45, 0, .aload_n 0), (45, 48, 0, .getfield 13), (48, 49, 0, .aload_n 0), (49, 52, 0, .getfield 93), (52, 53, 0, .iload_n 2), (53, 54, 0, .iastore), (54, 55, 0, .aload_n 0), (55, 58, 0, .getfield 16), (58, 59, 0, .aload_n 0), (59, 62, 0, .getfield 93), (62, 63, 0, .iconst 1), (63, 64, 0, .bastore), (64, 65, 0, .aload_n 0), (65, 66, 0, .dup), (66, 69, 0, .getfield 93), (69, 70, 0, .iconst 1), (70, 71, 0, .iadd), (71, 74, 0, .putfield 93), (74, 75, 0, .aload_n 0), (75, 76, 0, .aload_n 0), (76, 79, 0, .getfield 93), (79, 80, 0, .iconst 1), (80, 81, 0, .isub), (81, 84, 0, .invokevirtual 103), (84, 85, 0, .istore_n 3), (85, 86, 0, .aload_n 0), (86, 89, 0, .getfield 93), (89, 90, 0, .iconst 1), (90, 91, 0, .isub), (91, 92, 0, .ireturn)]
def mX7_link : Mt := (yX7_link, cX7_link, 4, (some .int), flX7, tX7_link)
theorem tX7_link_ok : ∀ e ∈ tX7_link, rowOk cX7_link e := by decide +kernel
theorem mX7_link_ok : mtOk mX7_link := ⟨by decide +kernel, tX7_link_ok, flX7_ok, by decide, lw_gm 750 (by decide +kernel) rfl⟩
def tX7_in : List Row := [(0, 1, 0, .iload_n 0), (1, 2, 0, .iload_n 1), (2, 5, 14, .if_icmp .lt 12), (5, 6, 0, .iload_n 0), (6, 7, 0, .iload_n 2), (7, 10, 14, .if_icmp .gt 7), (10, 11, 0, .iconst 1), (11, 14, 15, .goto 4), (14, 15, 0, .iconst 0), (15, 16, 0, .ireturn)]
def mX7_in : Mt := (yX7_in, cX7_in, 3, (some .boolean), flX7, tX7_in)
theorem tX7_in_ok : ∀ e ∈ tX7_in, rowOk cX7_in e := by decide +kernel
theorem mX7_in_ok : mtOk mX7_in := ⟨by decide +kernel, tX7_in_ok, flX7_ok, by decide, lw_gm 753 (by decide +kernel) rfl⟩
def tX7_takes : List Row := [(0, 1, 0, .iconst 0), (1, 2, 0, .istore_n 2), (2, 3, 0, .iconst 0), (3, 4, 0, .istore_n 3), (4, 5, 0, .iload_n 3), (5, 7, 0, .bipush 8), (7, 10, 43, .if_icmp .ge 36), (10, 11, 0, .aload_n 0), (11, 14, 0, .getfield 23), (14, 15, 0, .iload_n 3), (15, 16, 0, .iaload), (16, 18, 0, .bipush (-6)), (18, 21, 37, .if_icmp .ne 19), (21, 22, 0, .aload_n 0), (22, 25, 0, .getfield 23), (25, 26, 0, .iload_n 3), (26, 27, 0, .iload_n 1), (27, 28, 0, .iastore), (28, 29, 0, .aload_n 0), (29, 30, 0, .iload_n 3), (30, 33, 0, .invokevirtual 107), (33, 34, 0, .pop), (34, 37, 0, .iinc 2 1), (37, 40, 0, .iinc 3 1), (40, 43, 4, .goto (-36)), (43, 44, 0, .iload_n 2), (44, 45, 0, .ireturn)]
def mX7_takes : Mt := (yX7_takes, cX7_takes, 4, (some .int), flX7, tX7_takes)
theorem tX7_takes_ok : ∀ e ∈ tX7_takes, rowOk cX7_takes e := by decide +kernel
theorem mX7_takes_ok : mtOk mX7_takes := ⟨by decide +kernel, tX7_takes_ok, flX7_ok, by decide, lw_gm 757 (by decide +kernel) rfl⟩
def tX7_lets : List Row := [(0, 1, 0, .iconst 0), (1, 2, 0, .istore_n 2), (2, 3, 0, .iconst 0), (3, 4, 0, .istore_n 3), (4, 5, 0, .iload_n 3), (5, 6, 0, .aload_n 0), (6, 9, 0, .getfield 110), (9, 12, 60, .if_icmp .ge 51), (12, 13, 0, .aload_n 0), (13, 16, 0, .getfield 54), (16, 17, 0, .iload_n 3), (17, 18, 0, .iaload), (18, 21, 54, .ifCond .ne 36), (21, 22, 0, .aload_n 0), (22, 25, 0, .getfield 51), (25, 26, 0, .iload_n 3), (26, 27, 0, .iaload), (27, 28, 0, .iload_n 1), (28, 31, 54, .if_icmp .ne 26), (31, 34, 0, .iinc 2 1), (34, 35, 0, .aload_n 0), (35, 38, 0, .getfield 23), (38, 39, 0, .iload_n 1), (39, 40, 0, .iaload), (40, 43, 54, .ifCond .lt 14), (43, 44, 0, .aload_n 0), (44, 45, 0, .iload_n 3), (45, 46, 0, .aload_n 0), (46, 49, 0, .getfield 23), (49, 50, 0, .iload_n 1), (50, 51, 0, .iaload), (51, 54, 0, .invokevirtual 113), (54, 57, 0, .iinc 3 1), (57, 60, 4, .goto (-53)), (60, 61, 0, .iload_n 2), (61, 62, 0, .ireturn)]
def mX7_lets : Mt := (yX7_lets, cX7_lets, 4, (some .int), flX7, tX7_lets)
theorem tX7_lets_ok : ∀ e ∈ tX7_lets, rowOk cX7_lets e := by decide +kernel
theorem mX7_lets_ok : mtOk mX7_lets := ⟨by decide +kernel, tX7_lets_ok, flX7_ok, by decide, lw_gm 761 (by decide +kernel) rfl⟩
def tX7_queue : List Row := [(0, 1, 0, .aload_n 0), (1, 4, 0, .getfield 54), (4, 5, 0, .iload_n 1), (5, 6, 0, .iconst 1), (6, 7, 0, .iastore), (7, 8, 0, .aload_n 0), (8, 11, 0, .getfield 57), (11, 12, 0, .iload_n 1), (12, 13, 0, .iload_n 2), (13, 14, 0, .iastore), (14, 15, 0, .aload_n 0), (15, 18, 0, .getfield 72), (18, 19, 0, .iload_n 1), (19, 20, 0, .aload_n 0), (20, 23, 0, .getfield 117), (23, 24, 0, .iastore), (24, 25, 0, .aload_n 0), (25, 26, 0, .dup), (26, 29, 0, .getfield 117), (29, 30, 0, .iconst 1), (30, 31, 0, .iadd), (31, 34, 0, .putfield 117), (34, 35, 0, .return_)]
def mX7_queue : Mt := (yX7_queue, cX7_queue, 3, none, flX7, tX7_queue)
theorem tX7_queue_ok : ∀ e ∈ tX7_queue, rowOk cX7_queue e := by decide +kernel
theorem mX7_queue_ok : mtOk mX7_queue := ⟨by decide +kernel, tX7_queue_ok, flX7_ok, by decide, lw_gm 765 (by decide +kernel) rfl⟩
def tX7_flow : List Row := [(0, 1, 0, .iload_n 1), (1, 2, 0, .iconst 0), (2, 4, 0, .bipush 100), (4, 7, 0, .invokestatic 96), (7, 10, 13, .ifCond .ne 6), (10, 12, 0, .bipush (-2)), (12, 13, 0, .ireturn), (13, 14, 0, .aload_n 0), (14, 17, 0, .getfield 100), (17, 19, 0, .bipush 16), (19, 22, 25, .if_icmp .ne 6), (22, 24, 0, .bipush (-4)), (24, 25, 0, .ireturn), (25, 26, 0, .aload_n 0), (26, 29, 0, .getfield 35), (29, 30, 0, .aload_n 0), (30, 33, 0, .getfield 100), (33, 34, 0, .iload_n 1), (34, 35, 0, .iastore), (35, 36, 0, .aload_n 0), (36, 39, 0, .getfield 38), (39, 40, 0, .aload_n 0), (40, 43, 0, .getfield 100), (43, 44, 0, .iconst (-1)), (44, 45, 0, .iastore), (45, 46, 0, .aload_n 0), (46, 47, 0, .dup), (47, 50, 0, .getfield 100), (50, 51, 0, .iconst 1), (51, 52, 0, .iadd), (52, 55, 0, .putfield 100), (55, 56, 0, .aload_n 0), (56, 59, 0, .getfield 100), (59, 60, 0, .iconst 1), (60, 61, 0, .isub), (61, 62, 0, .ireturn)]
def mX7_flow : Mt := (yX7_flow, cX7_flow, 2, (some .int), flX7, tX7_flow)
theorem tX7_flow_ok : ∀ e ∈ tX7_flow, rowOk cX7_flow e := by decide +kernel
theorem mX7_flow_ok : mtOk mX7_flow := ⟨by decide +kernel, tX7_flow_ok, flX7_ok, by decide, lw_gm 769 (by decide +kernel) rfl⟩
def tX7_rate : List Row := [(0, 1, 0, .aload_n 0), (1, 2, 0, .iload_n 1), (2, 5, 0, .invokevirtual 120), (5, 8, 10, .ifCond .ne 5), (8, 9, 0, .iconst (-1)), (9, 10, 0, .ireturn), (10, 11, 0, .iload_n 2), (11, 12, 0, .iconst 0), (12, 14, 0, .bipush 100), (14, 17, 0, .invokestatic 96), (17, 20, 23, .ifCond .ne 6), (20, 22, 0, .bipush (-2)), (22, 23, 0, .ireturn), (23, 24, 0, .aload_n 0), (24, 27, 0, .getfield 35), (27, 28, 0, .iload_n 1), (28, 29, 0, .iaload), (29, 30, 0, .istore_n 3), (30, 31, 0, .aload_n 0), (31, 34, 0, .getfield 35), (34, 35, 0, .iload_n 1), (35, 36, 0, .iload_n 2), (36, 37, 0, .iastore), (37, 38, 0, .iload_n 3), (38, 39, 0, .ireturn)]
def mX7_rate : Mt := (yX7_rate, cX7_rate, 4, (some .int), flX7, tX7_rate)
theorem tX7_rate_ok : ∀ e ∈ tX7_rate, rowOk cX7_rate e := by decide +kernel
theorem mX7_rate_ok : mtOk mX7_rate := ⟨by decide +kernel, tX7_rate_ok, flX7_ok, by decide, lw_gm 773 (by decide +kernel) rfl⟩
def tX7_isFlow : List Row := [(0, 1, 0, .iload_n 1), (1, 2, 0, .iconst 0), (2, 3, 0, .aload_n 0), (3, 6, 0, .getfield 100), (6, 7, 0, .iconst 1), (7, 8, 0, .isub), (8, 11, 0, .invokestatic 96), (11, 12, 0, .ireturn)]
def mX7_isFlow : Mt := (yX7_isFlow, cX7_isFlow, 2, (some .boolean), flX7, tX7_isFlow)
theorem tX7_isFlow_ok : ∀ e ∈ tX7_isFlow, rowOk cX7_isFlow e := by decide +kernel
theorem mX7_isFlow_ok : mtOk mX7_isFlow := ⟨by decide +kernel, tX7_isFlow_ok, flX7_ok, by decide, lw_gm 777 (by decide +kernel) rfl⟩
def tX7_pin : List Row := [(0, 1, 0, .aload_n 0), (1, 2, 0, .iload_n 1), (2, 5, 0, .invokevirtual 120), (5, 8, 10, .ifCond .ne 5), (8, 9, 0, .iconst (-1)), (9, 10, 0, .ireturn), (10, 11, 0, .iload_n 2), (11, 12, 0, .iconst (-1)), (12, 14, 0, .bipush 7), (14, 17, 0, .invokestatic 96), (17, 20, 23, .ifCond .ne 6), (20, 22, 0, .bipush (-2)), (22, 23, 0, .ireturn), (23, 24, 0, .aload_n 0), (24, 25, 0, .iload_n 1), (25, 28, 0, .invokevirtual 127), (28, 31, 34, .ifCond .eq 6), (31, 33, 0, .bipush (-3)), (33, 34, 0, .ireturn), (34, 35, 0, .aload_n 0), (35, 36, 0, .iload_n 1), (36, 39, 0, .invokevirtual 130), (39, 40, 0, .istore_n 3), (40, 41, 0, .aload_n 0), (41, 44, 0, .getfield 38), (44, 45, 0, .iload_n 1), (45, 46, 0, .iload_n 2), (46, 47, 0, .iastore), (47, 48, 0, .iload_n 3), (48, 49, 0, .ireturn)]
def mX7_pin : Mt := (yX7_pin, cX7_pin, 4, (some .int), flX7, tX7_pin)
theorem tX7_pin_ok : ∀ e ∈ tX7_pin, rowOk cX7_pin e := by decide +kernel
theorem mX7_pin_ok : mtOk mX7_pin := ⟨by decide +kernel, tX7_pin_ok, flX7_ok, by decide, lw_gm 781 (by decide +kernel) rfl⟩
def tX7_hasOpen : List Row := [(0, 1, 0, .iconst 0), (1, 2, 0, .istore_n 2), (2, 3, 0, .iconst 0), (3, 4, 0, .istore_n 3), (4, 5, 0, .iload_n 3), (5, 6, 0, .aload_n 0), (6, 9, 0, .getfield 110), (9, 12, 52, .if_icmp .ge 43), (12, 13, 0, .iload_n 2), (13, 16, 40, .ifCond .ne 27), (16, 17, 0, .aload_n 0), (17, 20, 0, .getfield 54), (20, 21, 0, .iload_n 3), (21, 22, 0, .iaload), (22, 23, 0, .iconst 4), (23, 26, 44, .if_icmp .ge 21), (26, 27, 0, .iload_n 1), (27, 30, 40, .ifCond .lt 13), (30, 31, 0, .aload_n 0), (31, 34, 0, .getfield 45), (34, 35, 0, .iload_n 3), (35, 36, 0, .iaload), (36, 37, 0, .iload_n 1), (37, 40, 44, .if_icmp .ne 7), (40, 41, 0, .iconst 1), (41, 44, 45, .goto 4), (44, 45, 0, .iconst 0), (45, 46, 0, .istore_n 2), (46, 49, 0, .iinc 3 1), (49, 52, 4, .goto (-45)), (52, 53, 0, .iload_n 2), (53, 54, 0, .ireturn)]
def mX7_hasOpen : Mt := (yX7_hasOpen, cX7_hasOpen, 4, (some .boolean), flX7, tX7_hasOpen)
theorem tX7_hasOpen_ok : ∀ e ∈ tX7_hasOpen, rowOk cX7_hasOpen e := by decide +kernel
theorem mX7_hasOpen_ok : mtOk mX7_hasOpen := ⟨by decide +kernel, tX7_hasOpen_ok, flX7_ok, by decide, lw_gm 785 (by decide +kernel) rfl⟩
def tX7_bucketNow : List Row := [(0, 1, 0, .aload_n 0), (1, 4, 0, .getfield 38), (4, 5, 0, .iload_n 1), (5, 6, 0, .iaload), (6, 9, 18, .ifCond .lt 12), (9, 10, 0, .aload_n 0), (10, 13, 0, .getfield 38), (13, 14, 0, .iload_n 1), (14, 15, 0, .iaload), (15, 18, 32, .goto 17), (18, 19, 0, .iload_n 1), (19, 20, 0, .aload_n 0), (20, 23, 0, .getfield 41), (23, 24, 0, .imul), (24, 25, 0, .aload_n 0), (25, 28, 0, .getfield 124), (28, 29, 0, .iadd), (29, 31, 0, .bipush 8), (31, 32, 0, .irem), (32, 33, 0, .ireturn)]
def mX7_bucketNow : Mt := (yX7_bucketNow, cX7_bucketNow, 2, (some .int), flX7, tX7_bucketNow)
theorem tX7_bucketNow_ok : ∀ e ∈ tX7_bucketNow, rowOk cX7_bucketNow e := by decide +kernel
theorem mX7_bucketNow_ok : mtOk mX7_bucketNow := ⟨by decide +kernel, tX7_bucketNow_ok, flX7_ok, by decide, lw_gm 789 (by decide +kernel) rfl⟩
def tX7_hash : List Row := [(0, 1, 0, .iload_n 1), (1, 2, 0, .iconst 0), (2, 4, 0, .bipush 7), (4, 7, 0, .invokestatic 96), (7, 10, 20, .ifCond .eq 13), (10, 11, 0, .iload_n 2), (11, 12, 0, .iconst 0), (12, 14, 0, .bipush 7), (14, 17, 0, .invokestatic 96), (17, 20, 23, .ifCond .ne 6), (20, 22, 0, .bipush (-2)), (22, 23, 0, .ireturn), (23, 24, 0, .aload_n 0), (24, 25, 0, .iconst (-1)), (25, 28, 0, .invokevirtual 127), (28, 31, 34, .ifCond .eq 6), (31, 33, 0, .bipush (-3)), (33, 34, 0, .ireturn), (34, 35, 0, .aload_n 0), (35, 36, 0, .iload_n 1), (36, 39, 0, .putfield 41), (39, 40, 0, .aload_n 0), (40, 41, 0, .iload_n 2), (41, 44, 0, .putfield 124), (44, 45, 0, .iconst 1), (45, 46, 0, .ireturn)]
def mX7_hash : Mt := (yX7_hash, cX7_hash, 3, (some .int), flX7, tX7_hash)
theorem tX7_hash_ok : ∀ e ∈ tX7_hash, rowOk cX7_hash e := by decide +kernel
theorem mX7_hash_ok : mtOk mX7_hash := ⟨by decide +kernel, tX7_hash_ok, flX7_ok, by decide, lw_gm 793 (by decide +kernel) rfl⟩
def tX7_numbers : List Row := [(0, 1, 0, .aload_n 0), (1, 2, 0, .iconst (-1)), (2, 5, 0, .invokevirtual 127), (5, 8, 11, .ifCond .eq 6), (8, 10, 0, .bipush (-3)), (10, 11, 0, .ireturn), (11, 12, 0, .aload_n 0), (12, 15, 0, .getfield 133), (15, 18, 22, .ifCond .eq 7), (18, 19, 0, .iconst 1), (19, 22, 23, .goto 4), (22, 23, 0, .iconst 0), (23, 24, 0, .istore_n 2), (24, 25, 0, .aload_n 0), (25, 26, 0, .iload_n 1), (26, 29, 0, .putfield 133), (29, 30, 0, .iload_n 2), (30, 31, 0, .ireturn)]
def mX7_numbers : Mt := (yX7_numbers, cX7_numbers, 3, (some .int), flX7, tX7_numbers)
theorem tX7_numbers_ok : ∀ e ∈ tX7_numbers, rowOk cX7_numbers e := by decide +kernel
theorem mX7_numbers_ok : mtOk mX7_numbers := ⟨by decide +kernel, tX7_numbers_ok, flX7_ok, by decide, lw_gm 797 (by decide +kernel) rfl⟩
def tX7_send : List Row := [(0, 1, 0, .aload_n 0), (1, 2, 0, .iload_n 1), (2, 5, 0, .invokevirtual 120), (5, 8, 10, .ifCond .ne 5), (8, 9, 0, .iconst (-1)), (9, 10, 0, .ireturn), (10, 11, 0, .iload_n 2), (11, 12, 0, .iconst 1), (12, 14, 0, .bipush 50), (14, 17, 0, .invokestatic 96), (17, 20, 23, .ifCond .ne 6), (20, 22, 0, .bipush (-2)), (22, 23, 0, .ireturn), (23, 24, 0, .aload_n 0), (24, 27, 0, .getfield 110), (27, 28, 0, .iload_n 2), (28, 29, 0, .iadd), (29, 32, 0, .sipush 400), (32, 35, 38, .if_icmp .le 6), (35, 37, 0, .bipush (-4)), (37, 38, 0, .ireturn), (38, 39, 0, .aload_n 0), (39, 40, 0, .iload_n 1), (40, 43, 0, .invokevirtual 130), (43, 44, 0, .istore_n 3), (44, 45, 0, .iconst 0), (45, 47, 0, .istore 4), (47, 49, 0, .iload 4), (49, 50, 0, .iload_n 2), (50, 53, 211, .if_icmp .ge 161), (53, 54, 0, .aload_n 0), (54, 57, 0, .getfield 29), (57, 58, 0, .iload_n 3), (58, 59, 0, .baload), (59, 62, 81, .ifCond .ne 22), (62, 63, 0, .aload_n 0), (63, 66, 0, .getfield 23), (66, 67, 0, .iload_n 3), (67, 68, 0, .iaload), (68, 70, 0, .bipush (-6)), (70, 73, 81, .if_icmp .eq 11), (73, 74, 0, .aload_n 0), (74, 75, 0, .iload_n 3), (75, 78, 0, .invokevirtual 137), (78, 81, 85, .ifCond .le 7), (81, 82, 0, .iconst 1), (82, 85, 86, .goto 4), (85, 86, 0, .iconst 0), (86, 88, 0, .istore 5), (88, 89, 0, .aload_n 0), (89, 92, 0, .getfield 110), (92, 94, 0, .istore 6), (94, 95, 0, .aload_n 0), (95, 98, 0, .getfield 48), (98, 100, 0, .iload 6), (100, 101, 0, .aload_n 0), (101, 102, 0, .iload_n 1), (102, 103, 0, .iconst (-1)), (103, 106, 0, .invokevirtual 140), (106, 107, 0, .iastore), (107, 108, 0, .aload_n 0), (108, 111, 0, .getfield 45), (111, 113, 0, .iload 6), (113, 114, 0, .iload_n 1), (114, 115, 0, .iastore), (115, 116, 0, .aload_n 0), (116, 119, 0, .getfield 51), (119, 121, 0, .iload 6), (121, 122, 0, .iload_n 3), (122, 123, 0, .iastore), (123, 124, 0, .aload_n 0), (124, 127, 0, .getfield 54), (127, 129, 0, .iload 6), (129, 130, 0, .iconst 0), (130, 131, 0, .iastore), (131, 132, 0, .aload_n 0), (132, 135, 0, .getfield 57), (135, 137, 0, .iload 6), (137, 139, 0, .bipush (-6)), (139, 140, 0, .iastore), (140, 141, 0, .aload_n 0), (141, 144, 0, .getfield 60), (144, 146, 0, .iload 6), (146, 147, 0, .aload_n 0), (147, 150, 0, .getfield 144), (150, 151, 0, .iastore), (151, 152, 0, .aload_n 0), (152, 155, 0, .getfield 63), (155, 157, 0, .iload 6), (157, 159, 0, .bipush (-6)), (159, 160, 0, .iastore), (160, 161, 0, .aload_n 0), (161, 164, 0, .getfield 66), (164, 166, 0, .iload 6), (166, 168, 0, .bipush (-6)), (168, 169, 0, .iastore), (169, 170, 0, .aload_n 0), (170, 173, 0, .getfield 69), (173, 175, 0, .iload 6), (175, 177, 0, .bipush (-6)), (177, 178, 0, .iastore), (178, 179, 0, .aload_n 0), (179, 180, 0, .dup), (180, 183, 0, .getfield 110), (183, 184, 0, .iconst 1), (184, 185, 0, .iadd), (185, 188, 0, .putfield 110), (188, 190, 0, .iload 5), (190, 193, 205, .ifCond .ne 15), (193, 194, 0, .aload_n 0), (194, 196, 0, .iload 6), (196, 197, 0, .aload_n 0), (197, 200, 0, .getfield 23), (200, 201, 0, .iload_n 3), (201, 202, 0, .iaload), (202, 205, 0, .invokevirtual 113), (205, 208, 0, .iinc 4 1), (208, 211, 47, .goto (-161)), (211, 212, 0, .aload_n 0), (212, 215, 0, .getfield 110), (215, 216, 0, .ireturn)]
def mX7_send : Mt := (yX7_send, cX7_send, 7, (some .int), flX7, tX7_send)
theorem tX7_send_ok : ∀ e ∈ tX7_send, rowOk cX7_send e := by decide +kernel
theorem mX7_send_ok : mtOk mX7_send := ⟨by decide +kernel, tX7_send_ok, flX7_ok, by decide, lw_gm 801 (by decide +kernel) rfl⟩
def tX7_held : List Row := [(0, 1, 0, .iconst 0), (1, 2, 0, .istore_n 2), (2, 3, 0, .iconst 0), (3, 4, 0, .istore_n 3), (4, 5, 0, .iload_n 3), (5, 6, 0, .aload_n 0), (6, 9, 0, .getfield 110), (9, 12, 45, .if_icmp .ge 36), (12, 13, 0, .iload_n 2), (13, 14, 0, .aload_n 0), (14, 17, 0, .getfield 54), (17, 18, 0, .iload_n 3), (18, 19, 0, .iaload), (19, 22, 36, .ifCond .ne 17), (22, 23, 0, .aload_n 0), (23, 26, 0, .getfield 51), (26, 27, 0, .iload_n 3), (27, 28, 0, .iaload), (28, 29, 0, .iload_n 1), (29, 32, 36, .if_icmp .ne 7), (32, 33, 0, .iconst 1), (33, 36, 37, .goto 4), (36, 37, 0, .iconst 0), (37, 38, 0, .iadd), (38, 39, 0, .istore_n 2), (39, 42, 0, .iinc 3 1), (42, 45, 4, .goto (-38)), (45, 46, 0, .iload_n 2), (46, 47, 0, .ireturn)]
def mX7_held : Mt := (yX7_held, cX7_held, 4, (some .int), flX7, tX7_held)
theorem tX7_held_ok : ∀ e ∈ tX7_held, rowOk cX7_held e := by decide +kernel
theorem mX7_held_ok : mtOk mX7_held := ⟨by decide +kernel, tX7_held_ok, flX7_ok, by decide, lw_gm 805 (by decide +kernel) rfl⟩
def tX7_ofFlowIn : List Row := [(0, 1, 0, .iconst 0), (1, 2, 0, .istore_n 3), (2, 3, 0, .iconst 0), (3, 5, 0, .istore 4), (5, 7, 0, .iload 4), (7, 8, 0, .aload_n 0), (8, 11, 0, .getfield 110), (11, 14, 54, .if_icmp .ge 43), (14, 15, 0, .iload_n 3), (15, 16, 0, .aload_n 0), (16, 19, 0, .getfield 45), (19, 21, 0, .iload 4), (21, 22, 0, .iaload), (22, 23, 0, .iload_n 1), (23, 26, 45, .if_icmp .ne 22), (26, 27, 0, .iload_n 2), (27, 30, 41, .ifCond .lt 14), (30, 31, 0, .aload_n 0), (31, 34, 0, .getfield 54), (34, 36, 0, .iload 4), (36, 37, 0, .iaload), (37, 38, 0, .iload_n 2), (38, 41, 45, .if_icmp .ne 7), (41, 42, 0, .iconst 1), (42, 45, 46, .goto 4), (45, 46, 0, .iconst 0), (46, 47, 0, .iadd), (47, 48, 0, .istore_n 3), (48, 51, 0, .iinc 4 1), (51, 54, 5, .goto (-46)), (54, 55, 0, .iload_n 3), (55, 56, 0, .ireturn)]
def mX7_ofFlowIn : Mt := (yX7_ofFlowIn, cX7_ofFlowIn, 5, (some .int), flX7, tX7_ofFlowIn)
theorem tX7_ofFlowIn_ok : ∀ e ∈ tX7_ofFlowIn, rowOk cX7_ofFlowIn e := by decide +kernel
theorem mX7_ofFlowIn_ok : mtOk mX7_ofFlowIn := ⟨by decide +kernel, tX7_ofFlowIn_ok, flX7_ok, by decide, lw_gm 809 (by decide +kernel) rfl⟩
def tX7_tick : List Row := [(0, 1, 0, .iload_n 1), (1, 2, 0, .iconst 0), (2, 5, 0, .sipush 500), (5, 8, 0, .invokestatic 96), (8, 11, 14, .ifCond .ne 6), (11, 13, 0, .bipush (-2)), (13, 14, 0, .ireturn), (14, 15, 0, .iconst 0), (15, 16, 0, .istore_n 2), (16, 17, 0, .iload_n 2), (17, 18, 0, .iload_n 1), (18, 21, 31, .if_icmp .ge 13), (21, 22, 0, .aload_n 0), (22, 25, 0, .invokevirtual 166), (25, 28, 0, .iinc 2 1), (28, 31, 16, .goto (-12)), (31, 32, 0, .aload_n 0), (32, 35, 0, .getfield 144), (35, 36, 0, .ireturn)]
def mX7_tick : Mt := (yX7_tick, cX7_tick, 3, (some .int), flX7, tX7_tick)
theorem tX7_tick_ok : ∀ e ∈ tX7_tick, rowOk cX7_tick e := by decide +kernel
theorem mX7_tick_ok : mtOk mX7_tick := ⟨by decide +kernel, tX7_tick_ok, flX7_ok, by decide, lw_gm 813 (by decide +kernel) rfl⟩
def tX7_tick1 : List Row := [(0, 1, 0, .aload_n 0), (1, 2, 0, .dup), (2, 5, 0, .getfield 144), (5, 6, 0, .iconst 1), (6, 7, 0, .iadd), (7, 10, 0, .putfield 144), (10, 11, 0, .iconst 0), (11, 12, 0, .istore_n 1), (12, 13, 0, .iload_n 1), (13, 14, 0, .aload_n 0), (14, 17, 0, .getfield 93), (17, 20, 133, .if_icmp .ge 116), (20, 21, 0, .aload_n 0), (21, 22, 0, .iload_n 1), (22, 25, 0, .invokevirtual 150), (25, 26, 0, .istore_n 2), (26, 27, 0, .iconst 0), (27, 28, 0, .istore_n 3), (28, 29, 0, .iload_n 3), (29, 30, 0, .aload_n 0), (30, 33, 0, .getfield 7), (33, 34, 0, .iload_n 1), (34, 35, 0, .iaload), (35, 38, 127, .if_icmp .ge 92), (38, 39, 0, .aload_n 0), (39, 42, 0, .getfield 16), (42, 43, 0, .iload_n 1), (43, 44, 0, .baload), (44, 47, 127, .ifCond .eq 83), (47, 48, 0, .iload_n 2), (48, 51, 127, .ifCond .lt 79), (51, 52, 0, .aload_n 0), (52, 55, 0, .getfield 54), (55, 56, 0, .iload_n 2), (56, 57, 0, .iconst 2), (57, 58, 0, .iastore), (58, 59, 0, .aload_n 0), (59, 62, 0, .getfield 63), (62, 63, 0, .iload_n 2), (63, 64, 0, .aload_n 0), (64, 67, 0, .getfield 144), (67, 68, 0, .iastore), (68, 69, 0, .aload_n 0), (69, 72, 0, .getfield 66), (72, 73, 0, .iload_n 2), (73, 74, 0, .aload_n 0), (74, 77, 0, .getfield 144), (77, 78, 0, .aload_n 0), (78, 81, 0, .getfield 13), (81, 82, 0, .iload_n 1), (82, 83, 0, .iaload), (83, 84, 0, .iadd), (84, 85, 0, .iastore), (85, 86, 0, .aload_n 0), (86, 89, 0, .getfield 75), (89, 90, 0, .iload_n 2), (90, 91, 0, .aload_n 0), (91, 94, 0, .getfield 117), (94, 95, 0, .iastore), (95, 96, 0, .aload_n 0), (96, 97, 0, .dup), (97, 100, 0, .getfield 117), (100, 101, 0, .iconst 1), (101, 102, 0, .iadd), (102, 105, 0, .putfield 117), (105, 106, 0, .aload_n 0), (106, 109, 0, .getfield 20), (109, 110, 0, .iload_n 1), (110, 111, 0, .dup2), (111, 112, 0, .iaload), (112, 113, 0, .iconst 1), (113, 114, 0, .iadd), (114, 115, 0, .iastore), (115, 116, 0, .aload_n 0), (116, 117, 0, .iload_n 1), (117, 120, 0, .invokevirtual 150), (120, 121, 0, .istore_n 2), (121, 124, 0, .iinc 3 1), (124, 127, 28, .goto (-96)), (127, 130, 0, .iinc 1 1), (130, 133, 12, .goto (-118)), (133, 134, 0, .iconst 0), (134, 135, 0, .istore_n 1), (135, 136, 0, .iload_n 1), (136, 137, 0, .aload_n 0), (137, 140, 0, .getfield 93), (140, 143, 190, .if_icmp .ge 50), (143, 144, 0, .aload_n 0), (144, 145, 0, .iload_n 1), (145, 148, 0, .invokevirtual 153), (148, 149, 0, .istore_n 2), (149, 150, 0, .iload_n 2), (150, 153, 184, .ifCond .lt 34), (153, 154, 0, .aload_n 0), (154, 157, 0, .getfield 133), (157, 160, 170, .ifCond .eq 13), (160, 161, 0, .aload_n 0), (161, 164, 0, .getfield 54), (164, 165, 0, .iload_n 2), (165, 166, 0, .iconst 3), (166, 167, 0, .iastore), (167, 170, 175, .goto 8), (170, 171, 0, .aload_n 0), (171, 172, 0, .iload_n 2), (172, 175, 0, .invokevirtual 156), (175, 176, 0, .aload_n 0), (176, 177, 0, .iload_n 1), (177, 180, 0, .invokevirtual 153), (180, 181, 0, .istore_n 2), (181, 184, 149, .goto (-32)), (184, 187, 0, .iinc 1 1), (187, 190, 135, .goto (-52)), (190, 191, 0, .iconst 0), (191, 192, 0, .istore_n 1), (192, 193, 0, .iload_n 1), (193, 194, 0, .aload_n 0), (194, 197, 0, .getfield 110), (197, 200, 229, .if_icmp .ge 32), (200, 201, 0, .aload_n 0), (201, 204, 0, .getfield 54), (204, 205, 0, .iload_n 1), (205, 206, 0, .iaload), (206, 207, 0, .iconst 3), (207, 210, 223, .if_icmp .ne 16), (210, 211, 0, .aload_n 0), (211, 212, 0, .iload_n 1), (212, 215, 0, .invokevirtual 160), (215, 218, 223, .ifCond .eq 8), (218, 219, 0, .aload_n 0), (219, 220, 0, .iload_n 1), (220, 223, 0, .invokevirtual 156), (223, 226, 0, .iinc 1 1), (226, 229, 192, .goto (-34)), (229, 230, 0, .iconst 0), (230, 231, 0, .istore_n 1), (231, 232, 0, .iload_n 1), (232, 234, 0, .bipush 8), (234, 237, 267, .if_icmp .ge 33), (237, 238, 0, .aload_n 0), (238, 241, 0, .getfield 26), (241, 242, 0, .iload_n 1), (242, 243, 0, .iaload), (243, 246, 255, .ifCond .ge 12), (246, 247, 0, .aload_n 0), (247, 250, 0, .getfield 29), (250, 251, 0, .iload_n 1), (251, 252, 0, .baload), (252, 255, 261, .ifCond .eq 9), (255, 256, 0, .aload_n 0), (256, 257, 0, .iload_n 1), (257, 260, 0, .invokevirtual 163), (260, 261, 0, .pop), (261, 264, 0, .iinc 1 1), (264, 267, 231, .goto (-33)), (267, 268, 0, .return_)]
def mX7_tick1 : Mt := (yX7_tick1, cX7_tick1, 4, none, flX7, tX7_tick1)
theorem tX7_tick1_ok : ∀ e ∈ tX7_tick1, rowOk cX7_tick1 e := by decide +kernel
theorem mX7_tick1_ok : mtOk mX7_tick1 := ⟨by decide +kernel, tX7_tick1_ok, flX7_ok, by decide, lw_gm 817 (by decide +kernel) rfl⟩
def tX7_firstQueued : List Row := [(0, 2, 0, .bipush (-6)), (2, 3, 0, .istore_n 2), (3, 4, 0, .iconst 0), (4, 5, 0, .istore_n 3), (5, 6, 0, .iload_n 3), (6, 7, 0, .aload_n 0), (7, 10, 0, .getfield 110), (10, 13, 76, .if_icmp .ge 66), (13, 14, 0, .aload_n 0), (14, 17, 0, .getfield 54), (17, 18, 0, .iload_n 3), (18, 19, 0, .iaload), (19, 20, 0, .iconst 1), (20, 23, 37, .if_icmp .ne 17), (23, 24, 0, .aload_n 0), (24, 27, 0, .getfield 57), (27, 28, 0, .iload_n 3), (28, 29, 0, .iaload), (29, 30, 0, .iload_n 1), (30, 33, 37, .if_icmp .ne 7), (33, 34, 0, .iconst 1), (34, 37, 38, .goto 4), (37, 38, 0, .iconst 0), (38, 40, 0, .istore 4), (40, 42, 0, .iload 4), (42, 45, 68, .ifCond .eq 26), (45, 46, 0, .iload_n 2), (46, 49, 64, .ifCond .lt 18), (49, 50, 0, .aload_n 0), (50, 53, 0, .getfield 72), (53, 54, 0, .iload_n 3), (54, 55, 0, .iaload), (55, 56, 0, .aload_n 0), (56, 59, 0, .getfield 72), (59, 60, 0, .iload_n 2), (60, 61, 0, .iaload), (61, 64, 68, .if_icmp .ge 7), (64, 65, 0, .iload_n 3), (65, 68, 69, .goto 4), (68, 69, 0, .iload_n 2), (69, 70, 0, .istore_n 2), (70, 73, 0, .iinc 3 1), (73, 76, 5, .goto (-68)), (76, 77, 0, .iload_n 2), (77, 78, 0, .ireturn)]
def mX7_firstQueued : Mt := (yX7_firstQueued, cX7_firstQueued, 5, (some .int), flX7, tX7_firstQueued)
theorem tX7_firstQueued_ok : ∀ e ∈ tX7_firstQueued, rowOk cX7_firstQueued e := by decide +kernel
theorem mX7_firstQueued_ok : mtOk mX7_firstQueued := ⟨by decide +kernel, tX7_firstQueued_ok, flX7_ok, by decide, lw_gm 821 (by decide +kernel) rfl⟩
def tX7_firstArriving : List Row := [(0, 2, 0, .bipush (-6)), (2, 3, 0, .istore_n 2), (3, 4, 0, .iconst 0), (4, 5, 0, .istore_n 3), (5, 6, 0, .iload_n 3), (6, 7, 0, .aload_n 0), (7, 10, 0, .getfield 110), (10, 13, 89, .if_icmp .ge 79), (13, 14, 0, .aload_n 0), (14, 17, 0, .getfield 54), (17, 18, 0, .iload_n 3), (18, 19, 0, .iaload), (19, 20, 0, .iconst 2), (20, 23, 50, .if_icmp .ne 30), (23, 24, 0, .aload_n 0), (24, 27, 0, .getfield 57), (27, 28, 0, .iload_n 3), (28, 29, 0, .iaload), (29, 30, 0, .iload_n 1), (30, 33, 50, .if_icmp .ne 20), (33, 34, 0, .aload_n 0), (34, 37, 0, .getfield 66), (37, 38, 0, .iload_n 3), (38, 39, 0, .iaload), (39, 40, 0, .aload_n 0), (40, 43, 0, .getfield 144), (43, 46, 50, .if_icmp .ne 7), (46, 47, 0, .iconst 1), (47, 50, 51, .goto 4), (50, 51, 0, .iconst 0), (51, 53, 0, .istore 4), (53, 55, 0, .iload 4), (55, 58, 81, .ifCond .eq 26), (58, 59, 0, .iload_n 2), (59, 62, 77, .ifCond .lt 18), (62, 63, 0, .aload_n 0), (63, 66, 0, .getfield 75), (66, 67, 0, .iload_n 3), (67, 68, 0, .iaload), (68, 69, 0, .aload_n 0), (69, 72, 0, .getfield 75), (72, 73, 0, .iload_n 2), (73, 74, 0, .iaload), (74, 77, 81, .if_icmp .ge 7), (77, 78, 0, .iload_n 3), (78, 81, 82, .goto 4), (81, 82, 0, .iload_n 2), (82, 83, 0, .istore_n 2), (83, 86, 0, .iinc 3 1), (86, 89, 5, .goto (-81)), (89, 90, 0, .iload_n 2), (90, 91, 0, .ireturn)]
def mX7_firstArriving : Mt := (yX7_firstArriving, cX7_firstArriving, 5, (some .int), flX7, tX7_firstArriving)
theorem tX7_firstArriving_ok : ∀ e ∈ tX7_firstArriving, rowOk cX7_firstArriving e := by decide +kernel
theorem mX7_firstArriving_ok : mtOk mX7_firstArriving := ⟨by decide +kernel, tX7_firstArriving_ok, flX7_ok, by decide, lw_gm 825 (by decide +kernel) rfl⟩
def tX7_comesOut : List Row := [(0, 1, 0, .aload_n 0), (1, 4, 0, .getfield 54), (4, 5, 0, .iload_n 1), (5, 6, 0, .iconst 4), (6, 7, 0, .iastore), (7, 8, 0, .aload_n 0), (8, 11, 0, .getfield 69), (11, 12, 0, .iload_n 1), (12, 13, 0, .aload_n 0), (13, 16, 0, .getfield 144), (16, 17, 0, .iastore), (17, 18, 0, .aload_n 0), (18, 21, 0, .getfield 78), (21, 22, 0, .aload_n 0), (22, 25, 0, .getfield 147), (25, 26, 0, .iload_n 1), (26, 27, 0, .iastore), (27, 28, 0, .aload_n 0), (28, 29, 0, .dup), (29, 32, 0, .getfield 147), (32, 33, 0, .iconst 1), (33, 34, 0, .iadd), (34, 37, 0, .putfield 147), (37, 38, 0, .return_)]
def mX7_comesOut : Mt := (yX7_comesOut, cX7_comesOut, 2, none, flX7, tX7_comesOut)
theorem tX7_comesOut_ok : ∀ e ∈ tX7_comesOut, rowOk cX7_comesOut e := by decide +kernel
theorem mX7_comesOut_ok : mtOk mX7_comesOut := ⟨by decide +kernel, tX7_comesOut_ok, flX7_ok, by decide, lw_gm 829 (by decide +kernel) rfl⟩
def tX7_isNext : List Row := [(0, 1, 0, .iconst 1), (1, 2, 0, .istore_n 2), (2, 3, 0, .iconst 0), (3, 4, 0, .istore_n 3), (4, 5, 0, .iload_n 3), (5, 6, 0, .iload_n 1), (6, 9, 50, .if_icmp .ge 44), (9, 10, 0, .iload_n 2), (10, 13, 42, .ifCond .eq 32), (13, 14, 0, .aload_n 0), (14, 17, 0, .getfield 45), (17, 18, 0, .iload_n 3), (18, 19, 0, .iaload), (19, 20, 0, .aload_n 0), (20, 23, 0, .getfield 45), (23, 24, 0, .iload_n 1), (24, 25, 0, .iaload), (25, 28, 38, .if_icmp .ne 13), (28, 29, 0, .aload_n 0), (29, 32, 0, .getfield 54), (32, 33, 0, .iload_n 3), (33, 34, 0, .iaload), (34, 35, 0, .iconst 4), (35, 38, 42, .if_icmp .lt 7), (38, 39, 0, .iconst 1), (39, 42, 43, .goto 4), (42, 43, 0, .iconst 0), (43, 44, 0, .istore_n 2), (44, 47, 0, .iinc 3 1), (47, 50, 4, .goto (-43)), (50, 51, 0, .iload_n 2), (51, 52, 0, .ireturn)]
def mX7_isNext : Mt := (yX7_isNext, cX7_isNext, 4, (some .boolean), flX7, tX7_isNext)
theorem tX7_isNext_ok : ∀ e ∈ tX7_isNext, rowOk cX7_isNext e := by decide +kernel
theorem mX7_isNext_ok : mtOk mX7_isNext := ⟨by decide +kernel, tX7_isNext_ok, flX7_ok, by decide, lw_gm 833 (by decide +kernel) rfl⟩
def tX7_settle : List Row := [(0, 1, 0, .aload_n 0), (1, 4, 0, .getfield 26), (4, 5, 0, .iload_n 1), (5, 6, 0, .iaload), (6, 9, 18, .ifCond .lt 12), (9, 10, 0, .aload_n 0), (10, 13, 0, .getfield 26), (13, 14, 0, .iload_n 1), (14, 15, 0, .iaload), (15, 18, 24, .goto 9), (18, 19, 0, .aload_n 0), (19, 22, 0, .getfield 23), (22, 23, 0, .iload_n 1), (23, 24, 0, .iaload), (24, 25, 0, .istore_n 2), (25, 26, 0, .aload_n 0), (26, 27, 0, .iload_n 1), (27, 28, 0, .iload_n 2), (28, 31, 0, .invokevirtual 169), (31, 34, 36, .ifCond .ne 5), (34, 35, 0, .iconst 0), (35, 36, 0, .ireturn), (36, 37, 0, .aload_n 0), (37, 40, 0, .getfield 32), (40, 41, 0, .iload_n 1), (41, 42, 0, .dup2), (42, 43, 0, .iaload), (43, 44, 0, .aload_n 0), (44, 47, 0, .getfield 26), (47, 48, 0, .iload_n 1), (48, 49, 0, .iaload), (49, 52, 56, .ifCond .lt 7), (52, 53, 0, .iconst 1), (53, 56, 57, .goto 4), (56, 57, 0, .iconst 0), (57, 58, 0, .iadd), (58, 59, 0, .iastore), (59, 60, 0, .aload_n 0), (60, 63, 0, .getfield 23), (63, 64, 0, .iload_n 1), (64, 65, 0, .iload_n 2), (65, 66, 0, .iastore), (66, 67, 0, .aload_n 0), (67, 70, 0, .getfield 26), (70, 71, 0, .iload_n 1), (71, 73, 0, .bipush (-6)), (73, 74, 0, .iastore), (74, 75, 0, .aload_n 0), (75, 78, 0, .getfield 29), (78, 79, 0, .iload_n 1), (79, 80, 0, .iconst 0), (80, 81, 0, .bastore), (81, 82, 0, .aload_n 0), (82, 83, 0, .iload_n 1), (83, 86, 0, .invokevirtual 107), (86, 87, 0, .istore_n 3), (87, 88, 0, .iconst 1), (88, 89, 0, .ireturn)]
def mX7_settle : Mt := (yX7_settle, cX7_settle, 4, (some .int), flX7, tX7_settle)
theorem tX7_settle_ok : ∀ e ∈ tX7_settle, rowOk cX7_settle e := by decide +kernel
theorem mX7_settle_ok : mtOk mX7_settle := ⟨by decide +kernel, tX7_settle_ok, flX7_ok, by decide, lw_gm 837 (by decide +kernel) rfl⟩
def tX7_canCome : List Row := [(0, 1, 0, .iconst 1), (1, 2, 0, .istore_n 3), (2, 3, 0, .iconst 0), (3, 5, 0, .istore 4), (5, 7, 0, .iload 4), (7, 8, 0, .aload_n 0), (8, 11, 0, .getfield 110), (11, 14, 98, .if_icmp .ge 87), (14, 15, 0, .aload_n 0), (15, 18, 0, .getfield 54), (18, 20, 0, .iload 4), (20, 21, 0, .iaload), (21, 22, 0, .iconst 1), (22, 25, 59, .if_icmp .eq 37), (25, 26, 0, .aload_n 0), (26, 29, 0, .getfield 54), (29, 31, 0, .iload 4), (31, 32, 0, .iaload), (32, 33, 0, .iconst 2), (33, 36, 63, .if_icmp .ne 30), (36, 37, 0, .aload_n 0), (37, 40, 0, .getfield 66), (40, 42, 0, .iload 4), (42, 43, 0, .iaload), (43, 44, 0, .aload_n 0), (44, 47, 0, .getfield 144), (47, 48, 0, .iconst 1), (48, 49, 0, .iadd), (49, 50, 0, .aload_n 0), (50, 53, 0, .getfield 13), (53, 54, 0, .iload_n 2), (54, 55, 0, .iaload), (55, 56, 0, .iadd), (56, 59, 63, .if_icmp .lt 7), (59, 60, 0, .iconst 1), (60, 63, 64, .goto 4), (63, 64, 0, .iconst 0), (64, 66, 0, .istore 5), (66, 67, 0, .iload_n 3), (67, 70, 90, .ifCond .eq 23), (70, 71, 0, .aload_n 0), (71, 74, 0, .getfield 51), (74, 76, 0, .iload 4), (76, 77, 0, .iaload), (77, 78, 0, .iload_n 1), (78, 81, 86, .if_icmp .ne 8), (81, 83, 0, .iload 5), (83, 86, 90, .ifCond .ne 7), (86, 87, 0, .iconst 1), (87, 90, 91, .goto 4), (90, 91, 0, .iconst 0), (91, 92, 0, .istore_n 3), (92, 95, 0, .iinc 4 1), (95, 98, 5, .goto (-90)), (98, 99, 0, .iload_n 3), (99, 100, 0, .ireturn)]
def mX7_canCome : Mt := (yX7_canCome, cX7_canCome, 6, (some .boolean), flX7, tX7_canCome)
theorem tX7_canCome_ok : ∀ e ∈ tX7_canCome, rowOk cX7_canCome e := by decide +kernel
theorem mX7_canCome_ok : mtOk mX7_canCome := ⟨by decide +kernel, tX7_canCome_ok, flX7_ok, by decide, lw_gm 841 (by decide +kernel) rfl⟩
def tX7_move : List Row := [(0, 1, 0, .iload_n 1), (1, 4, 0, .invokestatic 173), (4, 7, 15, .ifCond .eq 11), (7, 8, 0, .aload_n 0), (8, 9, 0, .iload_n 2), (9, 12, 0, .invokevirtual 176), (12, 15, 17, .ifCond .ne 5), (15, 16, 0, .iconst (-1)), (16, 17, 0, .ireturn), (17, 18, 0, .iload_n 3), (18, 19, 0, .iconst 0), (19, 20, 0, .iconst 2), (20, 23, 0, .invokestatic 96), (23, 26, 29, .ifCond .ne 6), (26, 28, 0, .bipush (-2)), (28, 29, 0, .ireturn), (29, 30, 0, .aload_n 0), (30, 33, 0, .getfield 23), (33, 34, 0, .iload_n 1), (34, 35, 0, .iaload), (35, 37, 0, .bipush (-6)), (37, 40, 58, .if_icmp .eq 21), (40, 41, 0, .aload_n 0), (41, 44, 0, .getfield 26), (44, 45, 0, .iload_n 1), (45, 46, 0, .iaload), (46, 49, 58, .ifCond .ge 12), (49, 50, 0, .aload_n 0), (50, 53, 0, .getfield 29), (53, 54, 0, .iload_n 1), (54, 55, 0, .baload), (55, 58, 61, .ifCond .eq 6), (58, 60, 0, .bipush (-3)), (60, 61, 0, .ireturn), (61, 62, 0, .aload_n 0), (62, 65, 0, .getfield 16), (65, 66, 0, .iload_n 2), (66, 67, 0, .baload), (67, 70, 92, .ifCond .eq 25), (70, 71, 0, .aload_n 0), (71, 74, 0, .getfield 23), (74, 75, 0, .iload_n 1), (75, 76, 0, .iaload), (76, 77, 0, .iload_n 2), (77, 80, 92, .if_icmp .eq 15), (80, 81, 0, .iload_n 3), (81, 82, 0, .iconst 2), (82, 85, 95, .if_icmp .ne 13), (85, 86, 0, .aload_n 0), (86, 89, 0, .getfield 133), (89, 92, 95, .ifCond .ne 6), (92, 94, 0, .bipush (-5)), (94, 95, 0, .ireturn), (95, 96, 0, .iload_n 3), (96, 97, 0, .iconst 2), (97, 100, 119, .if_icmp .ne 22), (100, 101, 0, .aload_n 0), (101, 104, 0, .getfield 23), (104, 105, 0, .iload_n 1), (105, 106, 0, .iload_n 2), (106, 107, 0, .iastore), (107, 108, 0, .aload_n 0), (108, 111, 0, .getfield 32), (111, 112, 0, .iload_n 1), (112, 113, 0, .dup2), (113, 114, 0, .iaload), (114, 115, 0, .iconst 1), (115, 116, 0, .iadd), (116, 117, 0, .iastore), (117, 118, 0, .iconst 1), (118, 119, 0, .ireturn), (119, 120, 0, .aload_n 0), (120, 123, 0, .getfield 26), (123, 124, 0, .iload_n 1), (124, 125, 0, .iload_n 2), (125, 126, 0, .iastore), (126, 127, 0, .aload_n 0), (127, 130, 0, .getfield 29), (130, 131, 0, .iload_n 1), (131, 132, 0, .iload_n 3), (132, 133, 0, .iconst 1), (133, 136, 140, .if_icmp .ne 7), (136, 137, 0, .iconst 1), (137, 140, 141, .goto 4), (140, 141, 0, .iconst 0), (141, 142, 0, .bastore), (142, 143, 0, .aload_n 0), (143, 144, 0, .iload_n 1), (144, 147, 0, .invokevirtual 163), (147, 148, 0, .ireturn)]
def mX7_move : Mt := (yX7_move, cX7_move, 4, (some .int), flX7, tX7_move)
theorem tX7_move_ok : ∀ e ∈ tX7_move, rowOk cX7_move e := by decide +kernel
theorem mX7_move_ok : mtOk mX7_move := ⟨by decide +kernel, tX7_move_ok, flX7_ok, by decide, lw_gm 845 (by decide +kernel) rfl⟩
def tX7_isBucket : List Row := [(0, 1, 0, .iload_n 0), (1, 2, 0, .iconst 0), (2, 4, 0, .bipush 7), (4, 7, 0, .invokestatic 96), (7, 8, 0, .ireturn)]
def mX7_isBucket : Mt := (yX7_isBucket, cX7_isBucket, 1, (some .boolean), flX7, tX7_isBucket)
theorem tX7_isBucket_ok : ∀ e ∈ tX7_isBucket, rowOk cX7_isBucket e := by decide +kernel
theorem mX7_isBucket_ok : mtOk mX7_isBucket := ⟨by decide +kernel, tX7_isBucket_ok, flX7_ok, by decide, lw_gm 848 (by decide +kernel) rfl⟩
def tX7_isLink : List Row := [(0, 1, 0, .iload_n 1), (1, 2, 0, .iconst 0), (2, 3, 0, .aload_n 0), (3, 6, 0, .getfield 93), (6, 7, 0, .iconst 1), (7, 8, 0, .isub), (8, 11, 0, .invokestatic 96), (11, 12, 0, .ireturn)]
def mX7_isLink : Mt := (yX7_isLink, cX7_isLink, 2, (some .boolean), flX7, tX7_isLink)
theorem tX7_isLink_ok : ∀ e ∈ tX7_isLink, rowOk cX7_isLink e := by decide +kernel
theorem mX7_isLink_ok : mtOk mX7_isLink := ⟨by decide +kernel, tX7_isLink_ok, flX7_ok, by decide, lw_gm 852 (by decide +kernel) rfl⟩
def tX7_drop : List Row := [(0, 1, 0, .iload_n 1), (1, 4, 0, .invokestatic 173), (4, 7, 9, .ifCond .ne 5), (7, 8, 0, .iconst (-1)), (8, 9, 0, .ireturn), (9, 10, 0, .aload_n 0), (10, 13, 0, .getfield 26), (13, 14, 0, .iload_n 1), (14, 15, 0, .iaload), (15, 18, 21, .ifCond .ge 6), (18, 20, 0, .bipush (-3)), (20, 21, 0, .ireturn), (21, 22, 0, .aload_n 0), (22, 25, 0, .getfield 26), (25, 26, 0, .iload_n 1), (26, 28, 0, .bipush (-6)), (28, 29, 0, .iastore), (29, 30, 0, .aload_n 0), (30, 33, 0, .getfield 29), (33, 34, 0, .iload_n 1), (34, 35, 0, .iconst 0), (35, 36, 0, .bastore), (36, 37, 0, .aload_n 0), (37, 38, 0, .iload_n 1), (38, 41, 0, .invokevirtual 107), (41, 42, 0, .ireturn)]
def mX7_drop : Mt := (yX7_drop, cX7_drop, 2, (some .int), flX7, tX7_drop)
theorem tX7_drop_ok : ∀ e ∈ tX7_drop, rowOk cX7_drop e := by decide +kernel
theorem mX7_drop_ok : mtOk mX7_drop := ⟨by decide +kernel, tX7_drop_ok, flX7_ok, by decide, lw_gm 856 (by decide +kernel) rfl⟩
def tX7_fail : List Row := [(0, 1, 0, .aload_n 0), (1, 2, 0, .iload_n 1), (2, 5, 0, .invokevirtual 176), (5, 8, 10, .ifCond .ne 5), (8, 9, 0, .iconst (-1)), (9, 10, 0, .ireturn), (10, 11, 0, .aload_n 0), (11, 14, 0, .getfield 16), (14, 15, 0, .iload_n 1), (15, 16, 0, .baload), (16, 19, 22, .ifCond .ne 6), (19, 21, 0, .bipush (-3)), (21, 22, 0, .ireturn), (22, 23, 0, .aload_n 0), (23, 26, 0, .getfield 16), (26, 27, 0, .iload_n 1), (27, 28, 0, .iconst 0), (28, 29, 0, .bastore), (29, 30, 0, .iconst 0), (30, 31, 0, .istore_n 2), (31, 32, 0, .iconst 0), (32, 33, 0, .istore_n 3), (33, 34, 0, .iload_n 3), (34, 35, 0, .aload_n 0), (35, 38, 0, .getfield 110), (38, 41, 97, .if_icmp .ge 59), (41, 42, 0, .aload_n 0), (42, 45, 0, .getfield 57), (45, 46, 0, .iload_n 3), (46, 47, 0, .iaload), (47, 48, 0, .iload_n 1), (48, 51, 91, .if_icmp .ne 43), (51, 52, 0, .aload_n 0), (52, 55, 0, .getfield 54), (55, 56, 0, .iload_n 3), (56, 57, 0, .iaload), (57, 58, 0, .iconst 1), (58, 61, 71, .if_icmp .eq 13), (61, 62, 0, .aload_n 0), (62, 65, 0, .getfield 54), (65, 66, 0, .iload_n 3), (66, 67, 0, .iaload), (67, 68, 0, .iconst 2), (68, 71, 91, .if_icmp .ne 23), (71, 72, 0, .aload_n 0), (72, 75, 0, .getfield 54), (75, 76, 0, .iload_n 3), (76, 77, 0, .iconst 5), (77, 78, 0, .iastore), (78, 79, 0, .aload_n 0), (79, 82, 0, .getfield 69), (82, 83, 0, .iload_n 3), (83, 84, 0, .aload_n 0), (84, 87, 0, .getfield 144), (87, 88, 0, .iastore), (88, 91, 0, .iinc 2 1), (91, 94, 0, .iinc 3 1), (94, 97, 33, .goto (-61)), (97, 98, 0, .iconst 0), (98, 99, 0, .istore_n 3), (99, 100, 0, .iload_n 3), (100, 102, 0, .bipush 8), (102, 105, 143, .if_icmp .ge 41), (105, 106, 0, .aload_n 0), (106, 109, 0, .getfield 26), (109, 110, 0, .iload_n 3), (110, 111, 0, .iaload), (111, 112, 0, .iload_n 1), (112, 115, 137, .if_icmp .ne 25), (115, 116, 0, .aload_n 0), (116, 119, 0, .getfield 26), (119, 120, 0, .iload_n 3), (120, 122, 0, .bipush (-6)), (122, 123, 0, .iastore), (123, 124, 0, .aload_n 0), (124, 127, 0, .getfield 29), (127, 128, 0, .iload_n 3), (128, 129, 0, .iconst 0), (129, 130, 0, .bastore), (130, 131, 0, .aload_n 0), (131, 132, 0, .iload_n 3), (132, 135, 0, .invokevirtual 107), (135, 137, 0, .istore 4), (137, 140, 0, .iinc 3 1), (140, 143, 99, .goto (-41)), (143, 144, 0, .iconst 0), (144, 145, 0, .istore_n 3), (145, 146, 0, .iload_n 3), (146, 148, 0, .bipush 8), (148, 151, 276, .if_icmp .ge 128), (151, 152, 0, .aload_n 0), (152, 155, 0, .getfield 23), (155, 156, 0, .iload_n 3), (156, 157, 0, .iaload), (157, 158, 0, .iload_n 1), (158, 161, 270, .if_icmp .ne 112), (161, 163, 0, .bipush (-6)), (163, 165, 0, .istore 4), (165, 166, 0, .iconst 0), (166, 168, 0, .istore 5), (168, 170, 0, .iload 5), (170, 171, 0, .aload_n 0), (171, 174, 0, .getfield 93), (174, 177, 222, .if_icmp .ge 48), (177, 178, 0, .aload_n 0), (178, 181, 0, .getfield 16), (181, 183, 0, .iload 5), (183, 184, 0, .baload), (184, 187, 212, .ifCond .eq 28), (187, 189, 0, .iload 4), (189, 192, 207, .ifCond .lt 18), (192, 193, 0, .aload_n 0), (193, 195, 0, .iload 5), (195, 198, 0, .invokevirtual 179), (198, 199, 0, .aload_n 0), (199, 201, 0, .iload 4), (201, 204, 0, .invokevirtual 179), (204, 207, 212, .if_icmp .ge 8), (207, 209, 0, .iload 5), (209, 212, 214, .goto 5), (212, 214, 0, .iload 4), (214, 216, 0, .istore 4), (216, 219, 0, .iinc 5 1), (219, 222, 168, .goto (-51)), (222, 223, 0, .aload_n 0), (223, 226, 0, .getfield 23), (226, 227, 0, .iload_n 3), (227, 229, 0, .iload 4), (229, 230, 0, .iastore), (230, 231, 0, .aload_n 0), (231, 234, 0, .getfield 26), (234, 235, 0, .iload_n 3), (235, 237, 0, .bipush (-6)), (237, 238, 0, .iastore), (238, 239, 0, .aload_n 0), (239, 242, 0, .getfield 29), (242, 243, 0, .iload_n 3), (243, 245, 0, .iload 4), (245, 248, 252, .ifCond .lt 7), (248, 249, 0, .iconst 1), (249, 252, 253, .goto 4), (252, 253, 0, .iconst 0), (253, 254, 0, .bastore), (254, 256, 0, .iload 4), (256, 259, 267, .ifCond .lt 11), (259, 260, 0, .aload_n 0), (260, 261, 0, .iload_n 3), (261, 264, 0, .invokevirtual 163), (264, 267, 268, .goto 4), (267, 268, 0, .iconst 0), (268, 270, 0, .istore 5), (270, 273, 0, .iinc 3 1), (273, 276, 145, .goto (-128)), (276, 277, 0, .iload_n 2), (277, 278, 0, .ireturn)]
def mX7_fail : Mt := (yX7_fail, cX7_fail, 6, (some .int), flX7, tX7_fail)
theorem tX7_fail_ok : ∀ e ∈ tX7_fail, rowOk cX7_fail e := by decide +kernel
theorem mX7_fail_ok : mtOk mX7_fail := ⟨by decide +kernel, tX7_fail_ok, flX7_ok, by decide, lw_gm 860 (by decide +kernel) rfl⟩
def tX7_bucketsOn : List Row := [(0, 1, 0, .iconst 0), (1, 2, 0, .istore_n 2), (2, 3, 0, .iconst 0), (3, 4, 0, .istore_n 3), (4, 5, 0, .iload_n 3), (5, 7, 0, .bipush 8), (7, 10, 34, .if_icmp .ge 27), (10, 11, 0, .iload_n 2), (11, 12, 0, .aload_n 0), (12, 15, 0, .getfield 23), (15, 16, 0, .iload_n 3), (16, 17, 0, .iaload), (17, 18, 0, .iload_n 1), (18, 21, 25, .if_icmp .ne 7), (21, 22, 0, .iconst 1), (22, 25, 26, .goto 4), (25, 26, 0, .iconst 0), (26, 27, 0, .iadd), (27, 28, 0, .istore_n 2), (28, 31, 0, .iinc 3 1), (31, 34, 4, .goto (-27)), (34, 35, 0, .iload_n 2), (35, 36, 0, .ireturn)]
def mX7_bucketsOn : Mt := (yX7_bucketsOn, cX7_bucketsOn, 4, (some .int), flX7, tX7_bucketsOn)
theorem tX7_bucketsOn_ok : ∀ e ∈ tX7_bucketsOn, rowOk cX7_bucketsOn e := by decide +kernel
theorem mX7_bucketsOn_ok : mtOk mX7_bucketsOn := ⟨by decide +kernel, tX7_bucketsOn_ok, flX7_ok, by decide, lw_gm 864 (by decide +kernel) rfl⟩
def tX7_back : List Row := [(0, 1, 0, .aload_n 0), (1, 2, 0, .iload_n 1), (2, 5, 0, .invokevirtual 176), (5, 8, 10, .ifCond .ne 5), (8, 9, 0, .iconst (-1)), (9, 10, 0, .ireturn), (10, 11, 0, .aload_n 0), (11, 14, 0, .getfield 16), (14, 15, 0, .iload_n 1), (15, 16, 0, .baload), (16, 19, 22, .ifCond .eq 6), (19, 21, 0, .bipush (-3)), (21, 22, 0, .ireturn), (22, 23, 0, .aload_n 0), (23, 26, 0, .getfield 16), (26, 27, 0, .iload_n 1), (27, 28, 0, .iconst 1), (28, 29, 0, .bastore), (29, 30, 0, .aload_n 0), (30, 31, 0, .iload_n 1), (31, 34, 0, .invokevirtual 103), (34, 35, 0, .ireturn)]
def mX7_back : Mt := (yX7_back, cX7_back, 2, (some .int), flX7, tX7_back)
theorem tX7_back_ok : ∀ e ∈ tX7_back, rowOk cX7_back e := by decide +kernel
theorem mX7_back_ok : mtOk mX7_back := ⟨by decide +kernel, tX7_back_ok, flX7_ok, by decide, lw_gm 868 (by decide +kernel) rfl⟩
def tX7_letter : List Row := [(0, 1, 0, .iload_n 1), (1, 2, 0, .iconst 0), (2, 3, 0, .aload_n 0), (3, 6, 0, .getfield 110), (6, 7, 0, .iconst 1), (7, 8, 0, .isub), (8, 11, 0, .invokestatic 96), (11, 14, 16, .ifCond .ne 5), (14, 15, 0, .iconst (-1)), (15, 16, 0, .ireturn), (16, 17, 0, .iload_n 2), (17, 68, 0, .tableswitch 114 0 8 #[51, 58, 65, 72, 79, 86, 93, 100, 107]), (68, 69, 0, .aload_n 0), (69, 72, 0, .getfield 45), (72, 73, 0, .iload_n 1), (73, 74, 0, .iaload), (74, 75, 0, .ireturn), (75, 76, 0, .aload_n 0), (76, 79, 0, .getfield 48), (79, 80, 0, .iload_n 1), (80, 81, 0, .iaload), (81, 82, 0, .ireturn), (82, 83, 0, .aload_n 0), (83, 86, 0, .getfield 51), (86, 87, 0, .iload_n 1), (87, 88, 0, .iaload), (88, 89, 0, .ireturn), (89, 90, 0, .aload_n 0), (90, 93, 0, .getfield 54), (93, 94, 0, .iload_n 1), (94, 95, 0, .iaload), (95, 96, 0, .ireturn), (96, 97, 0, .aload_n 0), (97, 100, 0, .getfield 57), (100, 101, 0, .iload_n 1), (101, 102, 0, .iaload), (102, 103, 0, .ireturn), (103, 104, 0, .aload_n 0), (104, 107, 0, .getfield 60), (107, 108, 0, .iload_n 1), (108, 109, 0, .iaload), (109, 110, 0, .ireturn), (110, 111, 0, .aload_n 0), (111, 114, 0, .getfield 63), (114, 115, 0, .iload_n 1), (115, 116, 0, .iaload), (116, 117, 0, .ireturn), (117, 118, 0, .aload_n 0), (118, 121, 0, .getfield 66), (121, 122, 0, .iload_n 1), (122, 123, 0, .iaload), (123, 124, 0, .ireturn), (124, 125, 0, .aload_n 0), (125, 128, 0, .getfield 69), (128, 129, 0, .iload_n 1), (129, 130, 0, .iaload), (130, 131, 0, .ireturn), (131, 133, 0, .bipush (-2)), (133, 134, 0, .ireturn)]
def mX7_letter : Mt := (yX7_letter, cX7_letter, 3, (some .int), flX7, tX7_letter)
theorem tX7_letter_ok : ∀ e ∈ tX7_letter, rowOk cX7_letter e := by decide +kernel
theorem mX7_letter_ok : mtOk mX7_letter := ⟨by decide +kernel, tX7_letter_ok, flX7_ok, by decide, lw_gm 872 (by decide +kernel) rfl⟩
def tX7_about : List Row := [(0, 1, 0, .aload_n 0), (1, 2, 0, .iload_n 1), (2, 5, 0, .invokevirtual 176), (5, 8, 10, .ifCond .ne 5), (8, 9, 0, .iconst (-1)), (9, 10, 0, .ireturn), (10, 11, 0, .iload_n 2), (11, 56, 0, .tableswitch 107 0 7 #[45, 52, 59, 74, 81, 88, 94, 100]), (56, 57, 0, .aload_n 0), (57, 60, 0, .getfield 7), (60, 61, 0, .iload_n 1), (61, 62, 0, .iaload), (62, 63, 0, .ireturn), (63, 64, 0, .aload_n 0), (64, 67, 0, .getfield 13), (67, 68, 0, .iload_n 1), (68, 69, 0, .iaload), (69, 70, 0, .ireturn), (70, 71, 0, .aload_n 0), (71, 74, 0, .getfield 16), (74, 75, 0, .iload_n 1), (75, 76, 0, .baload), (76, 79, 83, .ifCond .eq 7), (79, 80, 0, .iconst 1), (80, 83, 84, .goto 4), (83, 84, 0, .iconst 0), (84, 85, 0, .ireturn), (85, 86, 0, .aload_n 0), (86, 87, 0, .iconst 1), (87, 88, 0, .iload_n 1), (88, 91, 0, .invokevirtual 185), (91, 92, 0, .ireturn), (92, 93, 0, .aload_n 0), (93, 94, 0, .iconst 2), (94, 95, 0, .iload_n 1), (95, 98, 0, .invokevirtual 185), (98, 99, 0, .ireturn), (99, 100, 0, .aload_n 0), (100, 101, 0, .iload_n 1), (101, 104, 0, .invokevirtual 179), (104, 105, 0, .ireturn), (105, 106, 0, .aload_n 0), (106, 107, 0, .iload_n 1), (107, 110, 0, .invokevirtual 188), (110, 111, 0, .ireturn), (111, 112, 0, .aload_n 0), (112, 115, 0, .getfield 20), (115, 116, 0, .iload_n 1), (116, 117, 0, .iaload), (117, 118, 0, .ireturn), (118, 120, 0, .bipush (-2)), (120, 121, 0, .ireturn)]
def mX7_about : Mt := (yX7_about, cX7_about, 3, (some .int), flX7, tX7_about)
theorem tX7_about_ok : ∀ e ∈ tX7_about, rowOk cX7_about e := by decide +kernel
theorem mX7_about_ok : mtOk mX7_about := ⟨by decide +kernel, tX7_about_ok, flX7_ok, by decide, lw_gm 876 (by decide +kernel) rfl⟩
def tX7_inState : List Row := [(0, 1, 0, .iconst 0), (1, 2, 0, .istore_n 3), (2, 3, 0, .iconst 0), (3, 5, 0, .istore 4), (5, 7, 0, .iload 4), (7, 8, 0, .aload_n 0), (8, 11, 0, .getfield 110), (11, 14, 54, .if_icmp .ge 43), (14, 15, 0, .iload_n 3), (15, 16, 0, .aload_n 0), (16, 19, 0, .getfield 54), (19, 21, 0, .iload 4), (21, 22, 0, .iaload), (22, 23, 0, .iload_n 1), (23, 26, 45, .if_icmp .ne 22), (26, 27, 0, .iload_n 2), (27, 30, 41, .ifCond .lt 14), (30, 31, 0, .aload_n 0), (31, 34, 0, .getfield 57), (34, 36, 0, .iload 4), (36, 37, 0, .iaload), (37, 38, 0, .iload_n 2), (38, 41, 45, .if_icmp .ne 7), (41, 42, 0, .iconst 1), (42, 45, 46, .goto 4), (45, 46, 0, .iconst 0), (46, 47, 0, .iadd), (47, 48, 0, .istore_n 3), (48, 51, 0, .iinc 4 1), (51, 54, 5, .goto (-46)), (54, 55, 0, .iload_n 3), (55, 56, 0, .ireturn)]
def mX7_inState : Mt := (yX7_inState, cX7_inState, 5, (some .int), flX7, tX7_inState)
theorem tX7_inState_ok : ∀ e ∈ tX7_inState, rowOk cX7_inState e := by decide +kernel
theorem mX7_inState_ok : mtOk mX7_inState := ⟨by decide +kernel, tX7_inState_ok, flX7_ok, by decide, lw_gm 880 (by decide +kernel) rfl⟩
def tX7_load : List Row := [(0, 1, 0, .iconst 0), (1, 2, 0, .istore_n 2), (2, 3, 0, .iconst 0), (3, 4, 0, .istore_n 3), (4, 5, 0, .iload_n 3), (5, 7, 0, .bipush 8), (7, 10, 38, .if_icmp .ge 31), (10, 11, 0, .iload_n 2), (11, 12, 0, .aload_n 0), (12, 15, 0, .getfield 23), (15, 16, 0, .iload_n 3), (16, 17, 0, .iaload), (17, 18, 0, .iload_n 1), (18, 21, 29, .if_icmp .ne 11), (21, 22, 0, .aload_n 0), (22, 23, 0, .iload_n 3), (23, 26, 0, .invokevirtual 182), (26, 29, 30, .goto 4), (29, 30, 0, .iconst 0), (30, 31, 0, .iadd), (31, 32, 0, .istore_n 2), (32, 35, 0, .iinc 3 1), (35, 38, 4, .goto (-31)), (38, 39, 0, .iload_n 2), (39, 40, 0, .ireturn)]
def mX7_load : Mt := (yX7_load, cX7_load, 4, (some .int), flX7, tX7_load)
theorem tX7_load_ok : ∀ e ∈ tX7_load, rowOk cX7_load e := by decide +kernel
theorem mX7_load_ok : mtOk mX7_load := ⟨by decide +kernel, tX7_load_ok, flX7_ok, by decide, lw_gm 884 (by decide +kernel) rfl⟩
def tX7_rates : List Row := [(0, 1, 0, .iconst 0), (1, 2, 0, .istore_n 2), (2, 3, 0, .iconst 0), (3, 4, 0, .istore_n 3), (4, 5, 0, .iload_n 3), (5, 6, 0, .aload_n 0), (6, 9, 0, .getfield 100), (9, 12, 40, .if_icmp .ge 31), (12, 13, 0, .iload_n 2), (13, 14, 0, .aload_n 0), (14, 15, 0, .iload_n 3), (15, 18, 0, .invokevirtual 130), (18, 19, 0, .iload_n 1), (19, 22, 31, .if_icmp .ne 12), (22, 23, 0, .aload_n 0), (23, 26, 0, .getfield 35), (26, 27, 0, .iload_n 3), (27, 28, 0, .iaload), (28, 31, 32, .goto 4), (31, 32, 0, .iconst 0), (32, 33, 0, .iadd), (33, 34, 0, .istore_n 2), (34, 37, 0, .iinc 3 1), (37, 40, 4, .goto (-33)), (40, 41, 0, .iload_n 2), (41, 42, 0, .ireturn)]
def mX7_rates : Mt := (yX7_rates, cX7_rates, 4, (some .int), flX7, tX7_rates)
theorem tX7_rates_ok : ∀ e ∈ tX7_rates, rowOk cX7_rates e := by decide +kernel
theorem mX7_rates_ok : mtOk mX7_rates := ⟨by decide +kernel, tX7_rates_ok, flX7_ok, by decide, lw_gm 888 (by decide +kernel) rfl⟩
def tX7_bucket : List Row := [(0, 1, 0, .iload_n 1), (1, 4, 0, .invokestatic 173), (4, 7, 9, .ifCond .ne 5), (7, 8, 0, .iconst (-1)), (8, 9, 0, .ireturn), (9, 10, 0, .iload_n 2), (10, 48, 0, .tableswitch 86 0 5 #[38, 45, 52, 67, 73, 79]), (48, 49, 0, .aload_n 0), (49, 52, 0, .getfield 23), (52, 53, 0, .iload_n 1), (53, 54, 0, .iaload), (54, 55, 0, .ireturn), (55, 56, 0, .aload_n 0), (56, 59, 0, .getfield 26), (59, 60, 0, .iload_n 1), (60, 61, 0, .iaload), (61, 62, 0, .ireturn), (62, 63, 0, .aload_n 0), (63, 66, 0, .getfield 29), (66, 67, 0, .iload_n 1), (67, 68, 0, .baload), (68, 71, 75, .ifCond .eq 7), (71, 72, 0, .iconst 1), (72, 75, 76, .goto 4), (75, 76, 0, .iconst 0), (76, 77, 0, .ireturn), (77, 78, 0, .aload_n 0), (78, 79, 0, .iload_n 1), (79, 82, 0, .invokevirtual 137), (82, 83, 0, .ireturn), (83, 84, 0, .aload_n 0), (84, 85, 0, .iload_n 1), (85, 88, 0, .invokevirtual 182), (88, 89, 0, .ireturn), (89, 90, 0, .aload_n 0), (90, 93, 0, .getfield 32), (93, 94, 0, .iload_n 1), (94, 95, 0, .iaload), (95, 96, 0, .ireturn), (96, 98, 0, .bipush (-2)), (98, 99, 0, .ireturn)]
def mX7_bucket : Mt := (yX7_bucket, cX7_bucket, 3, (some .int), flX7, tX7_bucket)
theorem tX7_bucket_ok : ∀ e ∈ tX7_bucket, rowOk cX7_bucket e := by decide +kernel
theorem mX7_bucket_ok : mtOk mX7_bucket := ⟨by decide +kernel, tX7_bucket_ok, flX7_ok, by decide, lw_gm 892 (by decide +kernel) rfl⟩
def tX7_ofFlow : List Row := [(0, 1, 0, .aload_n 0), (1, 2, 0, .iload_n 1), (2, 5, 0, .invokevirtual 120), (5, 8, 10, .ifCond .ne 5), (8, 9, 0, .iconst (-1)), (9, 10, 0, .ireturn), (10, 11, 0, .iload_n 2), (11, 48, 0, .tableswitch 86 0 5 #[37, 44, 50, 57, 64, 71]), (48, 49, 0, .aload_n 0), (49, 52, 0, .getfield 35), (52, 53, 0, .iload_n 1), (53, 54, 0, .iaload), (54, 55, 0, .ireturn), (55, 56, 0, .aload_n 0), (56, 57, 0, .iload_n 1), (57, 60, 0, .invokevirtual 130), (60, 61, 0, .ireturn), (61, 62, 0, .aload_n 0), (62, 63, 0, .iload_n 1), (63, 64, 0, .iconst (-1)), (64, 67, 0, .invokevirtual 140), (67, 68, 0, .ireturn), (68, 69, 0, .aload_n 0), (69, 70, 0, .iload_n 1), (70, 71, 0, .iconst 4), (71, 74, 0, .invokevirtual 140), (74, 75, 0, .ireturn), (75, 76, 0, .aload_n 0), (76, 77, 0, .iload_n 1), (77, 78, 0, .iconst 5), (78, 81, 0, .invokevirtual 140), (81, 82, 0, .ireturn), (82, 83, 0, .aload_n 0), (83, 86, 0, .getfield 38), (86, 87, 0, .iload_n 1), (87, 88, 0, .iaload), (88, 91, 95, .ifCond .lt 7), (91, 92, 0, .iconst 1), (92, 95, 96, .goto 4), (95, 96, 0, .iconst 0), (96, 97, 0, .ireturn), (97, 99, 0, .bipush (-2)), (99, 100, 0, .ireturn)]
def mX7_ofFlow : Mt := (yX7_ofFlow, cX7_ofFlow, 3, (some .int), flX7, tX7_ofFlow)
theorem tX7_ofFlow_ok : ∀ e ∈ tX7_ofFlow, rowOk cX7_ofFlow e := by decide +kernel
theorem mX7_ofFlow_ok : mtOk mX7_ofFlow := ⟨by decide +kernel, tX7_ofFlow_ok, flX7_ok, by decide, lw_gm 896 (by decide +kernel) rfl⟩
def tX7_out : List Row := [(0, 1, 0, .iload_n 1), (1, 2, 0, .iconst 0), (2, 3, 0, .aload_n 0), (3, 6, 0, .getfield 147), (6, 7, 0, .iconst 1), (7, 8, 0, .isub), (8, 11, 0, .invokestatic 96), (11, 14, 23, .ifCond .eq 12), (14, 15, 0, .aload_n 0), (15, 18, 0, .getfield 78), (18, 19, 0, .iload_n 1), (19, 20, 0, .iaload), (20, 23, 25, .goto 5), (23, 25, 0, .bipush (-6)), (25, 26, 0, .ireturn)]
def mX7_out : Mt := (yX7_out, cX7_out, 2, (some .int), flX7, tX7_out)
theorem tX7_out_ok : ∀ e ∈ tX7_out, rowOk cX7_out e := by decide +kernel
theorem mX7_out_ok : mtOk mX7_out := ⟨by decide +kernel, tX7_out_ok, flX7_ok, by decide, lw_gm 900 (by decide +kernel) rfl⟩
def tX7_ordered : List Row := [(0, 1, 0, .aload_n 0), (1, 2, 0, .iload_n 1), (2, 5, 0, .invokevirtual 120), (5, 8, 10, .ifCond .ne 5), (8, 9, 0, .iconst (-1)), (9, 10, 0, .ireturn), (10, 11, 0, .iconst (-1)), (11, 12, 0, .istore_n 2), (12, 13, 0, .iconst 0), (13, 14, 0, .istore_n 3), (14, 15, 0, .iload_n 3), (15, 16, 0, .aload_n 0), (16, 19, 0, .getfield 147), (19, 22, 72, .if_icmp .ge 53), (22, 23, 0, .aload_n 0), (23, 26, 0, .getfield 45), (26, 27, 0, .aload_n 0), (27, 30, 0, .getfield 78), (30, 31, 0, .iload_n 3), (31, 32, 0, .iaload), (32, 33, 0, .iaload), (33, 34, 0, .iload_n 1), (34, 37, 66, .if_icmp .ne 32), (37, 38, 0, .aload_n 0), (38, 41, 0, .getfield 48), (41, 42, 0, .aload_n 0), (42, 45, 0, .getfield 78), (45, 46, 0, .iload_n 3), (46, 47, 0, .iaload), (47, 48, 0, .iaload), (48, 49, 0, .iload_n 2), (49, 52, 54, .if_icmp .ge 5), (52, 53, 0, .iconst 0), (53, 54, 0, .ireturn), (54, 55, 0, .aload_n 0), (55, 58, 0, .getfield 48), (58, 59, 0, .aload_n 0), (59, 62, 0, .getfield 78), (62, 63, 0, .iload_n 3), (63, 64, 0, .iaload), (64, 65, 0, .iaload), (65, 66, 0, .istore_n 2), (66, 69, 0, .iinc 3 1), (69, 72, 14, .goto (-55)), (72, 73, 0, .iconst 1), (73, 74, 0, .ireturn)]
def mX7_ordered : Mt := (yX7_ordered, cX7_ordered, 4, (some .int), flX7, tX7_ordered)
theorem tX7_ordered_ok : ∀ e ∈ tX7_ordered, rowOk cX7_ordered e := by decide +kernel
theorem mX7_ordered_ok : mtOk mX7_ordered := ⟨by decide +kernel, tX7_ordered_ok, flX7_ok, by decide, lw_gm 904 (by decide +kernel) rfl⟩
def tX7_told : List Row := [(0, 1, 0, .iload_n 1), (1, 60, 0, .tableswitch 134 0 10 #[59, 64, 69, 74, 79, 86, 93, 100, 107, 114, 121]), (60, 61, 0, .aload_n 0), (61, 64, 0, .getfield 144), (64, 65, 0, .ireturn), (65, 66, 0, .aload_n 0), (66, 69, 0, .getfield 93), (69, 70, 0, .ireturn), (70, 71, 0, .aload_n 0), (71, 74, 0, .getfield 100), (74, 75, 0, .ireturn), (75, 76, 0, .aload_n 0), (76, 79, 0, .getfield 110), (79, 80, 0, .ireturn), (80, 81, 0, .aload_n 0), (81, 82, 0, .iconst 0), (82, 83, 0, .iconst (-1)), (83, 86, 0, .invokevirtual 185), (86, 87, 0, .ireturn), (87, 88, 0, .aload_n 0), (88, 89, 0, .iconst 1), (89, 90, 0, .iconst (-1)), (90, 93, 0, .invokevirtual 185), (93, 94, 0, .ireturn), (94, 95, 0, .aload_n 0), (95, 96, 0, .iconst 2), (96, 97, 0, .iconst (-1)), (97, 100, 0, .invokevirtual 185), (100, 101, 0, .ireturn), (101, 102, 0, .aload_n 0), (102, 103, 0, .iconst 3), (103, 104, 0, .iconst (-1)), (104, 107, 0, .invokevirtual 185), (107, 108, 0, .ireturn), (108, 109, 0, .aload_n 0), (109, 110, 0, .iconst 4), (110, 111, 0, .iconst (-1)), (111, 114, 0, .invokevirtual 185), (114, 115, 0, .ireturn), (115, 116, 0, .aload_n 0), (116, 117, 0, .iconst 5), (117, 118, 0, .iconst (-1)), (118, 121, 0, .invokevirtual 185), (121, 122, 0, .ireturn), (122, 123, 0, .aload_n 0), (123, 126, 0, .getfield 133), (126, 129, 133, .ifCond .eq 7), (129, 130, 0, .iconst 1), (130, 133, 134, .goto 4), (133, 134, 0, .iconst 0), (134, 135, 0, .ireturn), (135, 137, 0, .bipush (-2)), (137, 138, 0, .ireturn)]
def mX7_told : Mt := (yX7_told, cX7_told, 2, (some .int), flX7, tX7_told)
theorem tX7_told_ok : ∀ e ∈ tX7_told, rowOk cX7_told e := by decide +kernel
theorem mX7_told_ok : mtOk mX7_told := ⟨by decide +kernel, tX7_told_ok, flX7_ok, by decide, lw_gm 908 (by decide +kernel) rfl⟩
def tX7_even : List Row := [(0, 1, 0, .iload_n 1), (1, 2, 0, .iconst 0), (2, 5, 0, .sipush 1000), (5, 8, 0, .invokestatic 96), (8, 11, 14, .ifCond .ne 6), (11, 13, 0, .bipush (-2)), (13, 14, 0, .ireturn), (14, 15, 0, .aload_n 0), (15, 18, 0, .invokevirtual 193), (18, 21, 24, .ifCond .eq 6), (21, 23, 0, .bipush (-3)), (23, 24, 0, .ireturn), (24, 25, 0, .iconst 0), (25, 26, 0, .istore_n 2), (26, 27, 0, .iload_n 2), (27, 28, 0, .aload_n 0), (28, 31, 0, .getfield 93), (31, 34, 51, .if_icmp .ge 20), (34, 35, 0, .aload_n 0), (35, 38, 0, .getfield 84), (38, 39, 0, .iload_n 2), (39, 40, 0, .aload_n 0), (40, 41, 0, .iload_n 2), (41, 44, 0, .invokevirtual 188), (44, 45, 0, .iastore), (45, 48, 0, .iinc 2 1), (48, 51, 26, .goto (-22)), (51, 52, 0, .aload_n 0), (52, 53, 0, .iload_n 1), (53, 56, 0, .invokevirtual 197), (56, 59, 63, .ifCond .eq 7), (59, 60, 0, .iconst 1), (60, 63, 64, .goto 4), (63, 64, 0, .iconst 0), (64, 65, 0, .ireturn)]
def mX7_even : Mt := (yX7_even, cX7_even, 3, (some .int), flX7, tX7_even)
theorem tX7_even_ok : ∀ e ∈ tX7_even, rowOk cX7_even e := by decide +kernel
theorem mX7_even_ok : mtOk mX7_even := ⟨by decide +kernel, tX7_even_ok, flX7_ok, by decide, lw_gm 912 (by decide +kernel) rfl⟩
def tX7_noneUp : List Row := [(0, 1, 0, .iconst 1), (1, 2, 0, .istore_n 1), (2, 3, 0, .iconst 0), (3, 4, 0, .istore_n 2), (4, 5, 0, .iload_n 2), (5, 6, 0, .aload_n 0), (6, 9, 0, .getfield 93), (9, 12, 37, .if_icmp .ge 28), (12, 13, 0, .iload_n 1), (13, 16, 29, .ifCond .eq 16), (16, 17, 0, .aload_n 0), (17, 20, 0, .getfield 16), (20, 21, 0, .iload_n 2), (21, 22, 0, .baload), (22, 25, 29, .ifCond .ne 7), (25, 26, 0, .iconst 1), (26, 29, 30, .goto 4), (29, 30, 0, .iconst 0), (30, 31, 0, .istore_n 1), (31, 34, 0, .iinc 2 1), (34, 37, 4, .goto (-30)), (37, 38, 0, .iload_n 1), (38, 39, 0, .ireturn)]
def mX7_noneUp : Mt := (yX7_noneUp, cX7_noneUp, 3, (some .boolean), flX7, tX7_noneUp)
theorem tX7_noneUp_ok : ∀ e ∈ tX7_noneUp, rowOk cX7_noneUp e := by decide +kernel
theorem mX7_noneUp_ok : mtOk mX7_noneUp := ⟨by decide +kernel, tX7_noneUp_ok, flX7_ok, by decide, lw_gm 916 (by decide +kernel) rfl⟩
def tX7_isEven : List Row := [(0, 1, 0, .iconst 0), (1, 2, 0, .istore_n 2), (2, 3, 0, .iconst 0), (3, 4, 0, .istore_n 3), (4, 5, 0, .iconst 0), (5, 7, 0, .istore 4), (7, 9, 0, .iload 4), (9, 10, 0, .aload_n 0), (10, 13, 0, .getfield 93), (13, 16, 70, .if_icmp .ge 57), (16, 17, 0, .iload_n 2), (17, 18, 0, .aload_n 0), (18, 21, 0, .getfield 16), (21, 23, 0, .iload 4), (23, 24, 0, .baload), (24, 27, 37, .ifCond .eq 13), (27, 28, 0, .aload_n 0), (28, 31, 0, .getfield 7), (31, 33, 0, .iload 4), (33, 34, 0, .iaload), (34, 37, 38, .goto 4), (37, 38, 0, .iconst 0), (38, 39, 0, .iadd), (39, 40, 0, .istore_n 2), (40, 41, 0, .iload_n 3), (41, 42, 0, .aload_n 0), (42, 45, 0, .getfield 16), (45, 47, 0, .iload 4), (47, 48, 0, .baload), (48, 51, 61, .ifCond .eq 13), (51, 52, 0, .aload_n 0), (52, 55, 0, .getfield 84), (55, 57, 0, .iload 4), (57, 58, 0, .iaload), (58, 61, 62, .goto 4), (61, 62, 0, .iconst 0), (62, 63, 0, .iadd), (63, 64, 0, .istore_n 3), (64, 67, 0, .iinc 4 1), (67, 70, 7, .goto (-60)), (70, 71, 0, .iconst 1), (71, 73, 0, .istore 4), (73, 74, 0, .iconst 0), (74, 76, 0, .istore 5), (76, 78, 0, .iload 5), (78, 79, 0, .aload_n 0), (79, 82, 0, .getfield 93), (82, 85, 150, .if_icmp .ge 68), (85, 87, 0, .iload 4), (87, 90, 141, .ifCond .eq 54), (90, 91, 0, .aload_n 0), (91, 94, 0, .getfield 16), (94, 96, 0, .iload 5), (96, 97, 0, .baload), (97, 100, 137, .ifCond .eq 40), (100, 101, 0, .aload_n 0), (101, 104, 0, .getfield 84), (104, 106, 0, .iload 5), (106, 107, 0, .iaload), (107, 108, 0, .i2l), (108, 109, 0, .iload_n 2), (109, 110, 0, .i2l), (110, 111, 0, .lmul), (111, 114, 0, .ldc2_w 191), (114, 115, 0, .lmul), (115, 118, 0, .ldc2_w 191), (118, 119, 0, .iload_n 1), (119, 120, 0, .i2l), (120, 121, 0, .ladd), (121, 122, 0, .iload_n 3), (122, 123, 0, .i2l), (123, 124, 0, .lmul), (124, 125, 0, .aload_n 0), (125, 128, 0, .getfield 7), (128, 130, 0, .iload 5), (130, 131, 0, .iaload), (131, 132, 0, .i2l), (132, 133, 0, .lmul), (133, 134, 0, .lcmp), (134, 137, 141, .ifCond .gt 7), (137, 138, 0, .iconst 1), (138, 141, 142, .goto 4), (141, 142, 0, .iconst 0), (142, 144, 0, .istore 4), (144, 147, 0, .iinc 5 1), (147, 150, 76, .goto (-71)), (150, 152, 0, .iload 4), (152, 153, 0, .ireturn)]
def mX7_isEven : Mt := (yX7_isEven, cX7_isEven, 6, (some .boolean), flX7, tX7_isEven)
theorem tX7_isEven_ok : ∀ e ∈ tX7_isEven, rowOk cX7_isEven e := by decide +kernel
theorem mX7_isEven_ok : mtOk mX7_isEven := ⟨by decide +kernel, tX7_isEven_ok, flX7_ok, by decide, lw_gm 920 (by decide +kernel) rfl⟩
def tX7_least : List Row := [(0, 1, 0, .iload_n 1), (1, 2, 0, .iconst 0), (2, 5, 0, .sipush 1000), (5, 8, 0, .invokestatic 96), (8, 11, 14, .ifCond .ne 6), (11, 13, 0, .bipush (-2)), (13, 14, 0, .ireturn), (14, 15, 0, .aload_n 0), (15, 18, 0, .invokevirtual 193), (18, 21, 24, .ifCond .eq 6), (21, 23, 0, .bipush (-3)), (23, 24, 0, .ireturn), (24, 25, 0, .iconst 0), (25, 26, 0, .istore_n 2), (26, 27, 0, .iload_n 2), (27, 28, 0, .iconst 4), (28, 31, 44, .if_icmp .ge 16), (31, 32, 0, .aload_n 0), (32, 35, 0, .getfield 84), (35, 36, 0, .iload_n 2), (36, 37, 0, .iconst 0), (37, 38, 0, .iastore), (38, 41, 0, .iinc 2 1), (41, 44, 26, .goto (-15)), (44, 45, 0, .iconst 0), (45, 46, 0, .istore_n 2), (46, 47, 0, .iload_n 2), (47, 49, 0, .bipush 8), (49, 52, 123, .if_icmp .ge 74), (52, 53, 0, .aload_n 0), (53, 56, 0, .getfield 87), (56, 57, 0, .iload_n 2), (57, 58, 0, .aload_n 0), (58, 59, 0, .iload_n 2), (59, 62, 0, .invokevirtual 182), (62, 63, 0, .iastore), (63, 64, 0, .aload_n 0), (64, 67, 0, .getfield 90), (67, 68, 0, .iload_n 2), (68, 69, 0, .aload_n 0), (69, 72, 0, .getfield 23), (72, 73, 0, .iload_n 2), (73, 74, 0, .iaload), (74, 77, 85, .ifCond .lt 11), (77, 78, 0, .aload_n 0), (78, 79, 0, .iconst 0), (79, 82, 0, .invokevirtual 200), (82, 85, 87, .goto 5), (85, 87, 0, .bipush (-6)), (87, 88, 0, .iastore), (88, 89, 0, .aload_n 0), (89, 92, 0, .getfield 90), (92, 93, 0, .iload_n 2), (93, 94, 0, .iaload), (94, 97, 117, .ifCond .lt 23), (97, 98, 0, .aload_n 0), (98, 101, 0, .getfield 84), (101, 102, 0, .aload_n 0), (102, 105, 0, .getfield 90), (105, 106, 0, .iload_n 2), (106, 107, 0, .iaload), (107, 108, 0, .dup2), (108, 109, 0, .iaload), (109, 110, 0, .aload_n 0), (110, 113, 0, .getfield 87), (113, 114, 0, .iload_n 2), (114, 115, 0, .iaload), (115, 116, 0, .iadd), (116, 117, 0, .iastore), (117, 120, 0, .iinc 2 1), (120, 123, 46, .goto (-74)), (123, 125, 0, .bipush (-6)), (125, 126, 0, .istore_n 2), (126, 127, 0, .iconst 1), (127, 128, 0, .istore_n 3), (128, 129, 0, .iload_n 3), (129, 132, 242, .ifCond .eq 113), (132, 133, 0, .iconst 0), (133, 135, 0, .istore 4), (135, 136, 0, .iconst 0), (136, 138, 0, .istore 5), (138, 140, 0, .iload 5), (140, 142, 0, .bipush 8), (142, 145, 178, .if_icmp .ge 36), (145, 147, 0, .iload 4), (147, 148, 0, .aload_n 0), (148, 151, 0, .getfield 90), (151, 153, 0, .iload 5), (153, 154, 0, .iaload), (154, 155, 0, .aload_n 0), (155, 158, 0, .getfield 23), (158, 160, 0, .iload 5), (160, 161, 0, .iaload), (161, 164, 168, .if_icmp .eq 7), (164, 165, 0, .iconst 1), (165, 168, 169, .goto 4), (168, 169, 0, .iconst 0), (169, 170, 0, .iadd), (170, 172, 0, .istore 4), (172, 175, 0, .iinc 5 1), (175, 178, 138, .goto (-37)), (178, 179, 0, .iload_n 2), (179, 182, 188, .ifCond .lt 9), (182, 184, 0, .iload 4), (184, 185, 0, .iload_n 2), (185, 188, 234, .if_icmp .ge 49), (188, 189, 0, .aload_n 0), (189, 190, 0, .iload_n 1), (190, 193, 0, .invokevirtual 197), (193, 196, 234, .ifCond .eq 41), (196, 198, 0, .iload 4), (198, 199, 0, .istore_n 2), (199, 200, 0, .iconst 0), (200, 202, 0, .istore 5), (202, 204, 0, .iload 5), (204, 206, 0, .bipush 8), (206, 209, 229, .if_icmp .ge 23), (209, 210, 0, .aload_n 0), (210, 213, 0, .getfield 81), (213, 215, 0, .iload 5), (215, 216, 0, .aload_n 0), (216, 219, 0, .getfield 90), (219, 221, 0, .iload 5), (221, 222, 0, .iaload), (222, 223, 0, .iastore), (223, 226, 0, .iinc 5 1), (226, 229, 202, .goto (-24)), (229, 230, 0, .aload_n 0), (230, 231, 0, .iconst 1), (231, 234, 0, .putfield 203), (234, 235, 0, .aload_n 0), (235, 238, 0, .invokevirtual 206), (238, 239, 0, .istore_n 3), (239, 242, 128, .goto (-111)), (242, 243, 0, .iload_n 2), (243, 244, 0, .ireturn)]
def mX7_least : Mt := (yX7_least, cX7_least, 6, (some .int), flX7, tX7_least)
theorem tX7_least_ok : ∀ e ∈ tX7_least, rowOk cX7_least e := by decide +kernel
theorem mX7_least_ok : mtOk mX7_least := ⟨by decide +kernel, tX7_least_ok, flX7_ok, by decide, lw_gm 925 (by decide +kernel) rfl⟩
def tX7_nextUp : List Row := [(0, 1, 0, .iload_n 1), (1, 2, 0, .istore_n 2), (2, 3, 0, .iload_n 2), (3, 4, 0, .aload_n 0), (4, 7, 0, .getfield 93), (7, 10, 25, .if_icmp .ge 18), (10, 11, 0, .aload_n 0), (11, 14, 0, .getfield 16), (14, 15, 0, .iload_n 2), (15, 16, 0, .baload), (16, 19, 25, .ifCond .ne 9), (19, 22, 0, .iinc 2 1), (22, 25, 2, .goto (-20)), (25, 26, 0, .iload_n 2), (26, 27, 0, .aload_n 0), (27, 30, 0, .getfield 93), (30, 33, 37, .if_icmp .ge 7), (33, 34, 0, .iload_n 2), (34, 37, 39, .goto 5), (37, 39, 0, .bipush (-6)), (39, 40, 0, .ireturn)]
def mX7_nextUp : Mt := (yX7_nextUp, cX7_nextUp, 3, (some .int), flX7, tX7_nextUp)
theorem tX7_nextUp_ok : ∀ e ∈ tX7_nextUp, rowOk cX7_nextUp e := by decide +kernel
theorem mX7_nextUp_ok : mtOk mX7_nextUp := ⟨by decide +kernel, tX7_nextUp_ok, flX7_ok, by decide, lw_gm 929 (by decide +kernel) rfl⟩
def tX7_turns : List Row := [(0, 2, 0, .bipush 7), (2, 3, 0, .istore_n 1), (3, 4, 0, .iload_n 1), (4, 7, 100, .ifCond .lt 96), (7, 8, 0, .aload_n 0), (8, 11, 0, .getfield 90), (11, 12, 0, .iload_n 1), (12, 13, 0, .iaload), (13, 16, 94, .ifCond .lt 81), (16, 17, 0, .aload_n 0), (17, 18, 0, .aload_n 0), (18, 21, 0, .getfield 90), (21, 22, 0, .iload_n 1), (22, 23, 0, .iaload), (23, 24, 0, .iconst 1), (24, 25, 0, .iadd), (25, 28, 0, .invokevirtual 200), (28, 29, 0, .istore_n 2), (29, 30, 0, .aload_n 0), (30, 33, 0, .getfield 84), (33, 34, 0, .aload_n 0), (34, 37, 0, .getfield 90), (37, 38, 0, .iload_n 1), (38, 39, 0, .iaload), (39, 40, 0, .dup2), (40, 41, 0, .iaload), (41, 42, 0, .aload_n 0), (42, 45, 0, .getfield 87), (45, 46, 0, .iload_n 1), (46, 47, 0, .iaload), (47, 48, 0, .isub), (48, 49, 0, .iastore), (49, 50, 0, .aload_n 0), (50, 53, 0, .getfield 90), (53, 54, 0, .iload_n 1), (54, 55, 0, .iload_n 2), (55, 58, 62, .ifCond .lt 7), (58, 59, 0, .iload_n 2), (59, 62, 67, .goto 8), (62, 63, 0, .aload_n 0), (63, 64, 0, .iconst 0), (64, 67, 0, .invokevirtual 200), (67, 68, 0, .iastore), (68, 69, 0, .aload_n 0), (69, 72, 0, .getfield 84), (72, 73, 0, .aload_n 0), (73, 76, 0, .getfield 90), (76, 77, 0, .iload_n 1), (77, 78, 0, .iaload), (78, 79, 0, .dup2), (79, 80, 0, .iaload), (80, 81, 0, .aload_n 0), (81, 84, 0, .getfield 87), (84, 85, 0, .iload_n 1), (85, 86, 0, .iaload), (86, 87, 0, .iadd), (87, 88, 0, .iastore), (88, 89, 0, .iload_n 2), (89, 92, 94, .ifCond .lt 5), (92, 93, 0, .iconst 1), (93, 94, 0, .ireturn), (94, 97, 0, .iinc 1 (-1)), (97, 100, 3, .goto (-94)), (100, 101, 0, .iconst 0), (101, 102, 0, .ireturn)]
def mX7_turns : Mt := (yX7_turns, cX7_turns, 3, (some .boolean), flX7, tX7_turns)
theorem tX7_turns_ok : ∀ e ∈ tX7_turns, rowOk cX7_turns e := by decide +kernel
theorem mX7_turns_ok : mtOk mX7_turns := ⟨by decide +kernel, tX7_turns_ok, flX7_ok, by decide, lw_gm 933 (by decide +kernel) rfl⟩
def tX7_plan : List Row := [(0, 1, 0, .iload_n 1), (1, 4, 0, .invokestatic 173), (4, 7, 9, .ifCond .ne 5), (7, 8, 0, .iconst (-1)), (8, 9, 0, .ireturn), (9, 10, 0, .aload_n 0), (10, 13, 0, .getfield 203), (13, 16, 25, .ifCond .eq 12), (16, 17, 0, .aload_n 0), (17, 20, 0, .getfield 81), (20, 21, 0, .iload_n 1), (21, 22, 0, .iaload), (22, 25, 27, .goto 5), (25, 27, 0, .bipush (-3)), (27, 28, 0, .ireturn)]
def mX7_plan : Mt := (yX7_plan, cX7_plan, 2, (some .int), flX7, tX7_plan)
theorem tX7_plan_ok : ∀ e ∈ tX7_plan, rowOk cX7_plan e := by decide +kernel
theorem mX7_plan_ok : mtOk mX7_plan := ⟨by decide +kernel, tX7_plan_ok, flX7_ok, by decide, lw_gm 937 (by decide +kernel) rfl⟩
end
section
/-! call entries: by program -/
theorem sX6_X6_isWithin : siteS RX6 55 yX6_isWithin 3 := ⟨lw_gm 364 (by decide +kernel) rfl, lw_gm 365 (by decide +kernel) rfl, lw_gm 41 (by decide +kernel) rfl, ⟨by decide +kernel, by decide +kernel, by decide +kernel⟩⟩
theorem sX6_X3_add : siteV RX6 63 yX3_add 2 := ⟨lw_gm 367 (by decide +kernel) rfl, lw_gm 368 (by decide +kernel) rfl, lw_gm 369 (by decide +kernel) rfl, lw_gm 42 (by decide +kernel) rfl, ⟨by decide +kernel, by decide +kernel, by decide +kernel⟩⟩
theorem sX6_X5_takeIn : siteV RX6 67 yX5_takeIn 1 := ⟨lw_gm 371 (by decide +kernel) rfl, lw_gm 372 (by decide +kernel) rfl, lw_gm 373 (by decide +kernel) rfl, lw_gm 46 (by decide +kernel) rfl, ⟨by decide +kernel, by decide +kernel, by decide +kernel⟩⟩
theorem sX6_X1_add : siteV RX6 72 yX1_add 1 := ⟨lw_gm 391 (by decide +kernel) rfl, lw_gm 392 (by decide +kernel) rfl, lw_gm 393 (by decide +kernel) rfl, lw_gm 44 (by decide +kernel) rfl, ⟨by decide +kernel, by decide +kernel, by decide +kernel⟩⟩
theorem sX6_X6_isBelow : siteS RX6 74 yX6_isBelow 2 := ⟨lw_gm 399 (by decide +kernel) rfl, lw_gm 400 (by decide +kernel) rfl, lw_gm 41 (by decide +kernel) rfl, ⟨by decide +kernel, by decide +kernel, by decide +kernel⟩⟩
theorem sX6_X1_hasUnended : siteV RX6 82 yX1_hasUnended 1 := ⟨lw_gm 406 (by decide +kernel) rfl, lw_gm 407 (by decide +kernel) rfl, lw_gm 408 (by decide +kernel) rfl, lw_gm 44 (by decide +kernel) rfl, ⟨by decide +kernel, by decide +kernel, by decide +kernel⟩⟩
theorem sX6_X1_bucketOf : siteV RX6 86 yX1_bucketOf 1 := ⟨lw_gm 410 (by decide +kernel) rfl, lw_gm 411 (by decide +kernel) rfl, lw_gm 412 (by decide +kernel) rfl, lw_gm 44 (by decide +kernel) rfl, ⟨by decide +kernel, by decide +kernel, by decide +kernel⟩⟩
theorem sX6_X2_hasUnended : siteV RX6 92 yX2_hasUnended 0 := ⟨lw_gm 418 (by decide +kernel) rfl, lw_gm 419 (by decide +kernel) rfl, lw_gm 420 (by decide +kernel) rfl, lw_gm 45 (by decide +kernel) rfl, ⟨by decide +kernel, by decide +kernel, by decide +kernel⟩⟩
theorem sX6_X6_oneIf : siteS RX6 105 yX6_oneIf 1 := ⟨lw_gm 426 (by decide +kernel) rfl, lw_gm 427 (by decide +kernel) rfl, lw_gm 41 (by decide +kernel) rfl, ⟨by decide +kernel, by decide +kernel, by decide +kernel⟩⟩
theorem sX6_X5_post : siteV RX6 110 yX5_post 1 := ⟨lw_gm 433 (by decide +kernel) rfl, lw_gm 434 (by decide +kernel) rfl, lw_gm 435 (by decide +kernel) rfl, lw_gm 46 (by decide +kernel) rfl, ⟨by decide +kernel, by decide +kernel, by decide +kernel⟩⟩
theorem sX6_X5_isBusy : siteV RX6 117 yX5_isBusy 0 := ⟨lw_gm 446 (by decide +kernel) rfl, lw_gm 447 (by decide +kernel) rfl, lw_gm 448 (by decide +kernel) rfl, lw_gm 46 (by decide +kernel) rfl, ⟨by decide +kernel, by decide +kernel, by decide +kernel⟩⟩
theorem sX6_X5_passTick : siteV RX6 120 yX5_passTick 0 := ⟨lw_gm 462 (by decide +kernel) rfl, lw_gm 463 (by decide +kernel) rfl, lw_gm 464 (by decide +kernel) rfl, lw_gm 46 (by decide +kernel) rfl, ⟨by decide +kernel, by decide +kernel, by decide +kernel⟩⟩
theorem sX6_X0_isUnsettled : siteV RX6 126 yX0_isUnsettled 1 := ⟨lw_gm 506 (by decide +kernel) rfl, lw_gm 459 (by decide +kernel) rfl, lw_gm 460 (by decide +kernel) rfl, lw_gm 43 (by decide +kernel) rfl, ⟨by decide +kernel, by decide +kernel, by decide +kernel⟩⟩
theorem sX6_X5_startMove : siteV RX6 133 yX5_startMove 3 := ⟨lw_gm 507 (by decide +kernel) rfl, lw_gm 508 (by decide +kernel) rfl, lw_gm 509 (by decide +kernel) rfl, lw_gm 46 (by decide +kernel) rfl, ⟨by decide +kernel, by decide +kernel, by decide +kernel⟩⟩
theorem sX6_X5_cancelMove : siteV RX6 139 yX5_cancelMove 1 := ⟨lw_gm 515 (by decide +kernel) rfl, lw_gm 516 (by decide +kernel) rfl, lw_gm 517 (by decide +kernel) rfl, lw_gm 46 (by decide +kernel) rfl, ⟨by decide +kernel, by decide +kernel, by decide +kernel⟩⟩
theorem sX6_X5_breakLink : siteV RX6 142 yX5_breakLink 1 := ⟨lw_gm 523 (by decide +kernel) rfl, lw_gm 524 (by decide +kernel) rfl, lw_gm 525 (by decide +kernel) rfl, lw_gm 46 (by decide +kernel) rfl, ⟨by decide +kernel, by decide +kernel, by decide +kernel⟩⟩
theorem sX6_X0_howManyOn : siteV RX6 187 yX0_howManyOn 1 := ⟨lw_gm 552 (by decide +kernel) rfl, lw_gm 537 (by decide +kernel) rfl, lw_gm 538 (by decide +kernel) rfl, lw_gm 43 (by decide +kernel) rfl, ⟨by decide +kernel, by decide +kernel, by decide +kernel⟩⟩
theorem sX6_X4_loadOf : siteV RX6 190 yX4_loadOf 1 := ⟨lw_gm 553 (by decide +kernel) rfl, lw_gm 554 (by decide +kernel) rfl, lw_gm 555 (by decide +kernel) rfl, lw_gm 47 (by decide +kernel) rfl, ⟨by decide +kernel, by decide +kernel, by decide +kernel⟩⟩
theorem sX6_X1_rateOfBucket : siteV RX6 202 yX1_rateOfBucket 1 := ⟨lw_gm 562 (by decide +kernel) rfl, lw_gm 563 (by decide +kernel) rfl, lw_gm 564 (by decide +kernel) rfl, lw_gm 44 (by decide +kernel) rfl, ⟨by decide +kernel, by decide +kernel, by decide +kernel⟩⟩
theorem sX6_X3_isAnyUp : siteV RX6 226 yX3_isAnyUp 0 := ⟨lw_gm 587 (by decide +kernel) rfl, lw_gm 588 (by decide +kernel) rfl, lw_gm 589 (by decide +kernel) rfl, lw_gm 42 (by decide +kernel) rfl, ⟨by decide +kernel, by decide +kernel, by decide +kernel⟩⟩
theorem sX6_X4_isEven : siteV RX6 229 yX4_isEven 1 := ⟨lw_gm 591 (by decide +kernel) rfl, lw_gm 592 (by decide +kernel) rfl, lw_gm 593 (by decide +kernel) rfl, lw_gm 47 (by decide +kernel) rfl, ⟨by decide +kernel, by decide +kernel, by decide +kernel⟩⟩
theorem sX6_X4_fewestMoves : siteV RX6 232 yX4_fewestMoves 1 := ⟨lw_gm 608 (by decide +kernel) rfl, lw_gm 609 (by decide +kernel) rfl, lw_gm 610 (by decide +kernel) rfl, lw_gm 47 (by decide +kernel) rfl, ⟨by decide +kernel, by decide +kernel, by decide +kernel⟩⟩
theorem sX0_X0_isUnsettled : siteV RX0 28 yX0_isUnsettled 1 := ⟨lw_gm 458 (by decide +kernel) rfl, lw_gm 459 (by decide +kernel) rfl, lw_gm 460 (by decide +kernel) rfl, lw_gm 43 (by decide +kernel) rfl, ⟨by decide +kernel, by decide +kernel, by decide +kernel⟩⟩
theorem sX1_X1_bucketOf : siteV RX1 44 yX1_bucketOf 1 := ⟨lw_gm 566 (by decide +kernel) rfl, lw_gm 411 (by decide +kernel) rfl, lw_gm 412 (by decide +kernel) rfl, lw_gm 44 (by decide +kernel) rfl, ⟨by decide +kernel, by decide +kernel, by decide +kernel⟩⟩
theorem sX4_X1_bucketOf : siteV RX4 47 yX1_bucketOf 1 := ⟨lw_gm 557 (by decide +kernel) rfl, lw_gm 411 (by decide +kernel) rfl, lw_gm 412 (by decide +kernel) rfl, lw_gm 44 (by decide +kernel) rfl, ⟨by decide +kernel, by decide +kernel, by decide +kernel⟩⟩
theorem sX4_X4_measure : siteV RX4 54 yX4_measure 1 := ⟨lw_gm 595 (by decide +kernel) rfl, lw_gm 597 (by decide +kernel) rfl, lw_gm 11 (by decide +kernel) rfl, lw_gm 47 (by decide +kernel) rfl, ⟨by decide +kernel, by decide +kernel, by decide +kernel⟩⟩
theorem sX4_X4_loadOf : siteV RX4 65 yX4_loadOf 1 := ⟨lw_gm 599 (by decide +kernel) rfl, lw_gm 554 (by decide +kernel) rfl, lw_gm 555 (by decide +kernel) rfl, lw_gm 47 (by decide +kernel) rfl, ⟨by decide +kernel, by decide +kernel, by decide +kernel⟩⟩
theorem sX4_X4_isWithinShare : siteV RX4 68 yX4_isWithinShare 2 := ⟨lw_gm 600 (by decide +kernel) rfl, lw_gm 602 (by decide +kernel) rfl, lw_gm 12 (by decide +kernel) rfl, lw_gm 47 (by decide +kernel) rfl, ⟨by decide +kernel, by decide +kernel, by decide +kernel⟩⟩
theorem sX4_X1_rateOfBucket : siteV RX4 84 yX1_rateOfBucket 1 := ⟨lw_gm 612 (by decide +kernel) rfl, lw_gm 563 (by decide +kernel) rfl, lw_gm 564 (by decide +kernel) rfl, lw_gm 44 (by decide +kernel) rfl, ⟨by decide +kernel, by decide +kernel, by decide +kernel⟩⟩
theorem sX4_X4_place : siteV RX4 90 yX4_place 2 := ⟨lw_gm 613 (by decide +kernel) rfl, lw_gm 615 (by decide +kernel) rfl, lw_gm 13 (by decide +kernel) rfl, lw_gm 47 (by decide +kernel) rfl, ⟨by decide +kernel, by decide +kernel, by decide +kernel⟩⟩
theorem sX4_X4_keep : siteV RX4 94 yX4_keep 1 := ⟨lw_gm 617 (by decide +kernel) rfl, lw_gm 619 (by decide +kernel) rfl, lw_gm 14 (by decide +kernel) rfl, lw_gm 47 (by decide +kernel) rfl, ⟨by decide +kernel, by decide +kernel, by decide +kernel⟩⟩
theorem sX4_X4_placeOn : siteV RX4 97 yX4_placeOn 3 := ⟨lw_gm 624 (by decide +kernel) rfl, lw_gm 626 (by decide +kernel) rfl, lw_gm 15 (by decide +kernel) rfl, lw_gm 47 (by decide +kernel) rfl, ⟨by decide +kernel, by decide +kernel, by decide +kernel⟩⟩
theorem sX5_X1_bucketOf : siteV RX5 37 yX1_bucketOf 1 := ⟨lw_gm 437 (by decide +kernel) rfl, lw_gm 411 (by decide +kernel) rfl, lw_gm 412 (by decide +kernel) rfl, lw_gm 44 (by decide +kernel) rfl, ⟨by decide +kernel, by decide +kernel, by decide +kernel⟩⟩
theorem sX5_X2_add : siteV RX5 50 yX2_add 4 := ⟨lw_gm 438 (by decide +kernel) rfl, lw_gm 439 (by decide +kernel) rfl, lw_gm 440 (by decide +kernel) rfl, lw_gm 45 (by decide +kernel) rfl, ⟨by decide +kernel, by decide +kernel, by decide +kernel⟩⟩
theorem sX5_X5_enqueue : siteV RX5 65 yX5_enqueue 2 := ⟨lw_gm 379 (by decide +kernel) rfl, lw_gm 381 (by decide +kernel) rfl, lw_gm 1 (by decide +kernel) rfl, lw_gm 46 (by decide +kernel) rfl, ⟨by decide +kernel, by decide +kernel, by decide +kernel⟩⟩
theorem sX5_X2_turn : siteV RX5 81 yX2_turn 2 := ⟨lw_gm 383 (by decide +kernel) rfl, lw_gm 384 (by decide +kernel) rfl, lw_gm 385 (by decide +kernel) rfl, lw_gm 45 (by decide +kernel) rfl, ⟨by decide +kernel, by decide +kernel, by decide +kernel⟩⟩
theorem sX5_X2_isAnyUnderway : siteV RX5 84 yX2_isAnyUnderway 0 := ⟨lw_gm 450 (by decide +kernel) rfl, lw_gm 451 (by decide +kernel) rfl, lw_gm 452 (by decide +kernel) rfl, lw_gm 45 (by decide +kernel) rfl, ⟨by decide +kernel, by decide +kernel, by decide +kernel⟩⟩
theorem sX5_X0_isAnyUnsettled : siteV RX5 88 yX0_isAnyUnsettled 0 := ⟨lw_gm 454 (by decide +kernel) rfl, lw_gm 455 (by decide +kernel) rfl, lw_gm 456 (by decide +kernel) rfl, lw_gm 43 (by decide +kernel) rfl, ⟨by decide +kernel, by decide +kernel, by decide +kernel⟩⟩
theorem sX5_X5_leave : siteV RX5 95 yX5_leave 1 := ⟨lw_gm 466 (by decide +kernel) rfl, lw_gm 468 (by decide +kernel) rfl, lw_gm 2 (by decide +kernel) rfl, lw_gm 46 (by decide +kernel) rfl, ⟨by decide +kernel, by decide +kernel, by decide +kernel⟩⟩
theorem sX5_X5_arrive : siteV RX5 99 yX5_arrive 1 := ⟨lw_gm 473 (by decide +kernel) rfl, lw_gm 475 (by decide +kernel) rfl, lw_gm 3 (by decide +kernel) rfl, lw_gm 46 (by decide +kernel) rfl, ⟨by decide +kernel, by decide +kernel, by decide +kernel⟩⟩
theorem sX5_X5_letOutInOrder : siteV RX5 105 yX5_letOutInOrder 0 := ⟨lw_gm 485 (by decide +kernel) rfl, lw_gm 487 (by decide +kernel) rfl, lw_gm 5 (by decide +kernel) rfl, lw_gm 46 (by decide +kernel) rfl, ⟨by decide +kernel, by decide +kernel, by decide +kernel⟩⟩
theorem sX5_X0_isUnsettled : siteV RX5 108 yX0_isUnsettled 1 := ⟨lw_gm 489 (by decide +kernel) rfl, lw_gm 459 (by decide +kernel) rfl, lw_gm 460 (by decide +kernel) rfl, lw_gm 43 (by decide +kernel) rfl, ⟨by decide +kernel, by decide +kernel, by decide +kernel⟩⟩
theorem sX5_X5_settle : siteV RX5 112 yX5_settle 1 := ⟨lw_gm 490 (by decide +kernel) rfl, lw_gm 492 (by decide +kernel) rfl, lw_gm 6 (by decide +kernel) rfl, lw_gm 46 (by decide +kernel) rfl, ⟨by decide +kernel, by decide +kernel, by decide +kernel⟩⟩
theorem sX5_X5_letOut : siteV RX5 146 yX5_letOut 1 := ⟨lw_gm 477 (by decide +kernel) rfl, lw_gm 479 (by decide +kernel) rfl, lw_gm 4 (by decide +kernel) rfl, lw_gm 46 (by decide +kernel) rfl, ⟨by decide +kernel, by decide +kernel, by decide +kernel⟩⟩
theorem sX5_X1_noteOut : siteV RX5 164 yX1_noteOut 2 := ⟨lw_gm 481 (by decide +kernel) rfl, lw_gm 482 (by decide +kernel) rfl, lw_gm 483 (by decide +kernel) rfl, lw_gm 44 (by decide +kernel) rfl, ⟨by decide +kernel, by decide +kernel, by decide +kernel⟩⟩
theorem sX5_X5_reach : siteV RX5 170 yX5_reach 2 := ⟨lw_gm 498 (by decide +kernel) rfl, lw_gm 500 (by decide +kernel) rfl, lw_gm 8 (by decide +kernel) rfl, lw_gm 46 (by decide +kernel) rfl, ⟨by decide +kernel, by decide +kernel, by decide +kernel⟩⟩
theorem sX5_X5_mayReach : siteV RX5 173 yX5_mayReach 2 := ⟨lw_gm 494 (by decide +kernel) rfl, lw_gm 496 (by decide +kernel) rfl, lw_gm 7 (by decide +kernel) rfl, lw_gm 46 (by decide +kernel) rfl, ⟨by decide +kernel, by decide +kernel, by decide +kernel⟩⟩
theorem sX5_X5_release : siteV RX5 183 yX5_release 1 := ⟨lw_gm 375 (by decide +kernel) rfl, lw_gm 377 (by decide +kernel) rfl, lw_gm 0 (by decide +kernel) rfl, lw_gm 46 (by decide +kernel) rfl, ⟨by decide +kernel, by decide +kernel, by decide +kernel⟩⟩
theorem sX5_X5_loseLetters : siteV RX5 186 yX5_loseLetters 1 := ⟨lw_gm 527 (by decide +kernel) rfl, lw_gm 529 (by decide +kernel) rfl, lw_gm 9 (by decide +kernel) rfl, lw_gm 46 (by decide +kernel) rfl, ⟨by decide +kernel, by decide +kernel, by decide +kernel⟩⟩
theorem sX5_X5_cancelMove : siteV RX5 189 yX5_cancelMove 1 := ⟨lw_gm 531 (by decide +kernel) rfl, lw_gm 516 (by decide +kernel) rfl, lw_gm 517 (by decide +kernel) rfl, lw_gm 46 (by decide +kernel) rfl, ⟨by decide +kernel, by decide +kernel, by decide +kernel⟩⟩
theorem sX5_X5_upLinkWithFewestBuckets : siteV RX5 192 yX5_upLinkWithFewestBuckets 0 := ⟨lw_gm 532 (by decide +kernel) rfl, lw_gm 534 (by decide +kernel) rfl, lw_gm 10 (by decide +kernel) rfl, lw_gm 46 (by decide +kernel) rfl, ⟨by decide +kernel, by decide +kernel, by decide +kernel⟩⟩
theorem sX5_X0_howManyOn : siteV RX5 199 yX0_howManyOn 1 := ⟨lw_gm 536 (by decide +kernel) rfl, lw_gm 537 (by decide +kernel) rfl, lw_gm 538 (by decide +kernel) rfl, lw_gm 43 (by decide +kernel) rfl, ⟨by decide +kernel, by decide +kernel, by decide +kernel⟩⟩
theorem sL_X6_link : siteV RL 13 yX6_link 2 := ⟨lw_gm 360 (by decide +kernel) rfl, lw_gm 361 (by decide +kernel) rfl, lw_gm 362 (by decide +kernel) rfl, lw_gm 41 (by decide +kernel) rfl, ⟨by decide +kernel, by decide +kernel, by decide +kernel⟩⟩
theorem sL_X7_link : siteV RL 17 yX7_link 2 := ⟨lw_gm 747 (by decide +kernel) rfl, lw_gm 748 (by decide +kernel) rfl, lw_gm 749 (by decide +kernel) rfl, lw_gm 48 (by decide +kernel) rfl, ⟨by decide +kernel, by decide +kernel, by decide +kernel⟩⟩
theorem sL_X6_flow : siteV RL 18 yX6_flow 1 := ⟨lw_gm 387 (by decide +kernel) rfl, lw_gm 388 (by decide +kernel) rfl, lw_gm 389 (by decide +kernel) rfl, lw_gm 41 (by decide +kernel) rfl, ⟨by decide +kernel, by decide +kernel, by decide +kernel⟩⟩
theorem sL_X7_flow : siteV RL 22 yX7_flow 1 := ⟨lw_gm 766 (by decide +kernel) rfl, lw_gm 767 (by decide +kernel) rfl, lw_gm 768 (by decide +kernel) rfl, lw_gm 48 (by decide +kernel) rfl, ⟨by decide +kernel, by decide +kernel, by decide +kernel⟩⟩
theorem sL_X6_rate : siteV RL 23 yX6_rate 2 := ⟨lw_gm 395 (by decide +kernel) rfl, lw_gm 396 (by decide +kernel) rfl, lw_gm 397 (by decide +kernel) rfl, lw_gm 41 (by decide +kernel) rfl, ⟨by decide +kernel, by decide +kernel, by decide +kernel⟩⟩
theorem sL_X7_rate : siteV RL 26 yX7_rate 2 := ⟨lw_gm 770 (by decide +kernel) rfl, lw_gm 771 (by decide +kernel) rfl, lw_gm 772 (by decide +kernel) rfl, lw_gm 48 (by decide +kernel) rfl, ⟨by decide +kernel, by decide +kernel, by decide +kernel⟩⟩
theorem sL_X6_pin : siteV RL 27 yX6_pin 2 := ⟨lw_gm 402 (by decide +kernel) rfl, lw_gm 403 (by decide +kernel) rfl, lw_gm 404 (by decide +kernel) rfl, lw_gm 41 (by decide +kernel) rfl, ⟨by decide +kernel, by decide +kernel, by decide +kernel⟩⟩
theorem sL_X7_pin : siteV RL 30 yX7_pin 2 := ⟨lw_gm 778 (by decide +kernel) rfl, lw_gm 779 (by decide +kernel) rfl, lw_gm 780 (by decide +kernel) rfl, lw_gm 48 (by decide +kernel) rfl, ⟨by decide +kernel, by decide +kernel, by decide +kernel⟩⟩
theorem sL_X6_hash : siteV RL 31 yX6_hash 2 := ⟨lw_gm 414 (by decide +kernel) rfl, lw_gm 415 (by decide +kernel) rfl, lw_gm 416 (by decide +kernel) rfl, lw_gm 41 (by decide +kernel) rfl, ⟨by decide +kernel, by decide +kernel, by decide +kernel⟩⟩
theorem sL_X7_hash : siteV RL 34 yX7_hash 2 := ⟨lw_gm 790 (by decide +kernel) rfl, lw_gm 791 (by decide +kernel) rfl, lw_gm 792 (by decide +kernel) rfl, lw_gm 48 (by decide +kernel) rfl, ⟨by decide +kernel, by decide +kernel, by decide +kernel⟩⟩
theorem sL_X6_numbers : siteV RL 35 yX6_numbers 1 := ⟨lw_gm 422 (by decide +kernel) rfl, lw_gm 423 (by decide +kernel) rfl, lw_gm 424 (by decide +kernel) rfl, lw_gm 41 (by decide +kernel) rfl, ⟨by decide +kernel, by decide +kernel, by decide +kernel⟩⟩
theorem sL_X7_numbers : siteV RL 39 yX7_numbers 1 := ⟨lw_gm 794 (by decide +kernel) rfl, lw_gm 795 (by decide +kernel) rfl, lw_gm 796 (by decide +kernel) rfl, lw_gm 48 (by decide +kernel) rfl, ⟨by decide +kernel, by decide +kernel, by decide +kernel⟩⟩
theorem sL_X6_send : siteV RL 40 yX6_send 2 := ⟨lw_gm 429 (by decide +kernel) rfl, lw_gm 430 (by decide +kernel) rfl, lw_gm 431 (by decide +kernel) rfl, lw_gm 41 (by decide +kernel) rfl, ⟨by decide +kernel, by decide +kernel, by decide +kernel⟩⟩
theorem sL_X7_send : siteV RL 43 yX7_send 2 := ⟨lw_gm 798 (by decide +kernel) rfl, lw_gm 799 (by decide +kernel) rfl, lw_gm 800 (by decide +kernel) rfl, lw_gm 48 (by decide +kernel) rfl, ⟨by decide +kernel, by decide +kernel, by decide +kernel⟩⟩
theorem sL_X6_tick : siteV RL 44 yX6_tick 1 := ⟨lw_gm 442 (by decide +kernel) rfl, lw_gm 443 (by decide +kernel) rfl, lw_gm 444 (by decide +kernel) rfl, lw_gm 41 (by decide +kernel) rfl, ⟨by decide +kernel, by decide +kernel, by decide +kernel⟩⟩
theorem sL_X7_tick : siteV RL 47 yX7_tick 1 := ⟨lw_gm 810 (by decide +kernel) rfl, lw_gm 811 (by decide +kernel) rfl, lw_gm 812 (by decide +kernel) rfl, lw_gm 48 (by decide +kernel) rfl, ⟨by decide +kernel, by decide +kernel, by decide +kernel⟩⟩
theorem sL_X6_move : siteV RL 48 yX6_move 3 := ⟨lw_gm 502 (by decide +kernel) rfl, lw_gm 503 (by decide +kernel) rfl, lw_gm 504 (by decide +kernel) rfl, lw_gm 41 (by decide +kernel) rfl, ⟨by decide +kernel, by decide +kernel, by decide +kernel⟩⟩
theorem sL_X7_move : siteV RL 52 yX7_move 3 := ⟨lw_gm 842 (by decide +kernel) rfl, lw_gm 843 (by decide +kernel) rfl, lw_gm 844 (by decide +kernel) rfl, lw_gm 48 (by decide +kernel) rfl, ⟨by decide +kernel, by decide +kernel, by decide +kernel⟩⟩
theorem sL_X6_drop : siteV RL 53 yX6_drop 1 := ⟨lw_gm 511 (by decide +kernel) rfl, lw_gm 512 (by decide +kernel) rfl, lw_gm 513 (by decide +kernel) rfl, lw_gm 41 (by decide +kernel) rfl, ⟨by decide +kernel, by decide +kernel, by decide +kernel⟩⟩
theorem sL_X7_drop : siteV RL 56 yX7_drop 1 := ⟨lw_gm 853 (by decide +kernel) rfl, lw_gm 854 (by decide +kernel) rfl, lw_gm 855 (by decide +kernel) rfl, lw_gm 48 (by decide +kernel) rfl, ⟨by decide +kernel, by decide +kernel, by decide +kernel⟩⟩
theorem sL_X6_fail : siteV RL 57 yX6_fail 1 := ⟨lw_gm 519 (by decide +kernel) rfl, lw_gm 520 (by decide +kernel) rfl, lw_gm 521 (by decide +kernel) rfl, lw_gm 41 (by decide +kernel) rfl, ⟨by decide +kernel, by decide +kernel, by decide +kernel⟩⟩
theorem sL_X7_fail : siteV RL 60 yX7_fail 1 := ⟨lw_gm 857 (by decide +kernel) rfl, lw_gm 858 (by decide +kernel) rfl, lw_gm 859 (by decide +kernel) rfl, lw_gm 48 (by decide +kernel) rfl, ⟨by decide +kernel, by decide +kernel, by decide +kernel⟩⟩
theorem sL_X6_back : siteV RL 61 yX6_back 1 := ⟨lw_gm 540 (by decide +kernel) rfl, lw_gm 541 (by decide +kernel) rfl, lw_gm 542 (by decide +kernel) rfl, lw_gm 41 (by decide +kernel) rfl, ⟨by decide +kernel, by decide +kernel, by decide +kernel⟩⟩
theorem sL_X7_back : siteV RL 64 yX7_back 1 := ⟨lw_gm 865 (by decide +kernel) rfl, lw_gm 866 (by decide +kernel) rfl, lw_gm 867 (by decide +kernel) rfl, lw_gm 48 (by decide +kernel) rfl, ⟨by decide +kernel, by decide +kernel, by decide +kernel⟩⟩
theorem sL_X6_letter : siteV RL 65 yX6_letter 2 := ⟨lw_gm 544 (by decide +kernel) rfl, lw_gm 545 (by decide +kernel) rfl, lw_gm 546 (by decide +kernel) rfl, lw_gm 41 (by decide +kernel) rfl, ⟨by decide +kernel, by decide +kernel, by decide +kernel⟩⟩
theorem sL_X7_letter : siteV RL 68 yX7_letter 2 := ⟨lw_gm 869 (by decide +kernel) rfl, lw_gm 870 (by decide +kernel) rfl, lw_gm 871 (by decide +kernel) rfl, lw_gm 48 (by decide +kernel) rfl, ⟨by decide +kernel, by decide +kernel, by decide +kernel⟩⟩
theorem sL_X6_about : siteV RL 69 yX6_about 2 := ⟨lw_gm 548 (by decide +kernel) rfl, lw_gm 549 (by decide +kernel) rfl, lw_gm 550 (by decide +kernel) rfl, lw_gm 41 (by decide +kernel) rfl, ⟨by decide +kernel, by decide +kernel, by decide +kernel⟩⟩
theorem sL_X7_about : siteV RL 72 yX7_about 2 := ⟨lw_gm 873 (by decide +kernel) rfl, lw_gm 874 (by decide +kernel) rfl, lw_gm 875 (by decide +kernel) rfl, lw_gm 48 (by decide +kernel) rfl, ⟨by decide +kernel, by decide +kernel, by decide +kernel⟩⟩
theorem sL_X6_bucket : siteV RL 73 yX6_bucket 2 := ⟨lw_gm 558 (by decide +kernel) rfl, lw_gm 559 (by decide +kernel) rfl, lw_gm 560 (by decide +kernel) rfl, lw_gm 41 (by decide +kernel) rfl, ⟨by decide +kernel, by decide +kernel, by decide +kernel⟩⟩
theorem sL_X7_bucket : siteV RL 76 yX7_bucket 2 := ⟨lw_gm 889 (by decide +kernel) rfl, lw_gm 890 (by decide +kernel) rfl, lw_gm 891 (by decide +kernel) rfl, lw_gm 48 (by decide +kernel) rfl, ⟨by decide +kernel, by decide +kernel, by decide +kernel⟩⟩
theorem sL_X6_ofFlow : siteV RL 77 yX6_ofFlow 2 := ⟨lw_gm 567 (by decide +kernel) rfl, lw_gm 568 (by decide +kernel) rfl, lw_gm 569 (by decide +kernel) rfl, lw_gm 41 (by decide +kernel) rfl, ⟨by decide +kernel, by decide +kernel, by decide +kernel⟩⟩
theorem sL_X7_ofFlow : siteV RL 80 yX7_ofFlow 2 := ⟨lw_gm 893 (by decide +kernel) rfl, lw_gm 894 (by decide +kernel) rfl, lw_gm 895 (by decide +kernel) rfl, lw_gm 48 (by decide +kernel) rfl, ⟨by decide +kernel, by decide +kernel, by decide +kernel⟩⟩
theorem sL_X6_out : siteV RL 81 yX6_out 1 := ⟨lw_gm 571 (by decide +kernel) rfl, lw_gm 572 (by decide +kernel) rfl, lw_gm 573 (by decide +kernel) rfl, lw_gm 41 (by decide +kernel) rfl, ⟨by decide +kernel, by decide +kernel, by decide +kernel⟩⟩
theorem sL_X7_out : siteV RL 84 yX7_out 1 := ⟨lw_gm 897 (by decide +kernel) rfl, lw_gm 898 (by decide +kernel) rfl, lw_gm 899 (by decide +kernel) rfl, lw_gm 48 (by decide +kernel) rfl, ⟨by decide +kernel, by decide +kernel, by decide +kernel⟩⟩
theorem sL_X6_ordered : siteV RL 85 yX6_ordered 1 := ⟨lw_gm 575 (by decide +kernel) rfl, lw_gm 576 (by decide +kernel) rfl, lw_gm 577 (by decide +kernel) rfl, lw_gm 41 (by decide +kernel) rfl, ⟨by decide +kernel, by decide +kernel, by decide +kernel⟩⟩
theorem sL_X7_ordered : siteV RL 88 yX7_ordered 1 := ⟨lw_gm 901 (by decide +kernel) rfl, lw_gm 902 (by decide +kernel) rfl, lw_gm 903 (by decide +kernel) rfl, lw_gm 48 (by decide +kernel) rfl, ⟨by decide +kernel, by decide +kernel, by decide +kernel⟩⟩
theorem sL_X6_told : siteV RL 89 yX6_told 1 := ⟨lw_gm 579 (by decide +kernel) rfl, lw_gm 580 (by decide +kernel) rfl, lw_gm 581 (by decide +kernel) rfl, lw_gm 41 (by decide +kernel) rfl, ⟨by decide +kernel, by decide +kernel, by decide +kernel⟩⟩
theorem sL_X7_told : siteV RL 92 yX7_told 1 := ⟨lw_gm 905 (by decide +kernel) rfl, lw_gm 906 (by decide +kernel) rfl, lw_gm 907 (by decide +kernel) rfl, lw_gm 48 (by decide +kernel) rfl, ⟨by decide +kernel, by decide +kernel, by decide +kernel⟩⟩
theorem sL_X6_even : siteV RL 93 yX6_even 1 := ⟨lw_gm 583 (by decide +kernel) rfl, lw_gm 584 (by decide +kernel) rfl, lw_gm 585 (by decide +kernel) rfl, lw_gm 41 (by decide +kernel) rfl, ⟨by decide +kernel, by decide +kernel, by decide +kernel⟩⟩
theorem sL_X7_even : siteV RL 96 yX7_even 1 := ⟨lw_gm 909 (by decide +kernel) rfl, lw_gm 910 (by decide +kernel) rfl, lw_gm 911 (by decide +kernel) rfl, lw_gm 48 (by decide +kernel) rfl, ⟨by decide +kernel, by decide +kernel, by decide +kernel⟩⟩
theorem sL_X6_least : siteV RL 97 yX6_least 1 := ⟨lw_gm 604 (by decide +kernel) rfl, lw_gm 605 (by decide +kernel) rfl, lw_gm 606 (by decide +kernel) rfl, lw_gm 41 (by decide +kernel) rfl, ⟨by decide +kernel, by decide +kernel, by decide +kernel⟩⟩
theorem sL_X7_least : siteV RL 100 yX7_least 1 := ⟨lw_gm 922 (by decide +kernel) rfl, lw_gm 923 (by decide +kernel) rfl, lw_gm 924 (by decide +kernel) rfl, lw_gm 48 (by decide +kernel) rfl, ⟨by decide +kernel, by decide +kernel, by decide +kernel⟩⟩
theorem sL_X6_plan : siteV RL 101 yX6_plan 1 := ⟨lw_gm 628 (by decide +kernel) rfl, lw_gm 629 (by decide +kernel) rfl, lw_gm 630 (by decide +kernel) rfl, lw_gm 41 (by decide +kernel) rfl, ⟨by decide +kernel, by decide +kernel, by decide +kernel⟩⟩
theorem sL_X7_plan : siteV RL 104 yX7_plan 1 := ⟨lw_gm 934 (by decide +kernel) rfl, lw_gm 935 (by decide +kernel) rfl, lw_gm 936 (by decide +kernel) rfl, lw_gm 48 (by decide +kernel) rfl, ⟨by decide +kernel, by decide +kernel, by decide +kernel⟩⟩
theorem sX7_X7_in : siteS RX7 96 yX7_in 3 := ⟨lw_gm 751 (by decide +kernel) rfl, lw_gm 752 (by decide +kernel) rfl, lw_gm 48 (by decide +kernel) rfl, ⟨by decide +kernel, by decide +kernel, by decide +kernel⟩⟩
theorem sX7_X7_takes : siteV RX7 103 yX7_takes 1 := ⟨lw_gm 754 (by decide +kernel) rfl, lw_gm 756 (by decide +kernel) rfl, lw_gm 16 (by decide +kernel) rfl, lw_gm 48 (by decide +kernel) rfl, ⟨by decide +kernel, by decide +kernel, by decide +kernel⟩⟩
theorem sX7_X7_lets : siteV RX7 107 yX7_lets 1 := ⟨lw_gm 758 (by decide +kernel) rfl, lw_gm 760 (by decide +kernel) rfl, lw_gm 17 (by decide +kernel) rfl, lw_gm 48 (by decide +kernel) rfl, ⟨by decide +kernel, by decide +kernel, by decide +kernel⟩⟩
theorem sX7_X7_queue : siteV RX7 113 yX7_queue 2 := ⟨lw_gm 762 (by decide +kernel) rfl, lw_gm 764 (by decide +kernel) rfl, lw_gm 18 (by decide +kernel) rfl, lw_gm 48 (by decide +kernel) rfl, ⟨by decide +kernel, by decide +kernel, by decide +kernel⟩⟩
theorem sX7_X7_isFlow : siteV RX7 120 yX7_isFlow 1 := ⟨lw_gm 774 (by decide +kernel) rfl, lw_gm 776 (by decide +kernel) rfl, lw_gm 19 (by decide +kernel) rfl, lw_gm 48 (by decide +kernel) rfl, ⟨by decide +kernel, by decide +kernel, by decide +kernel⟩⟩
theorem sX7_X7_hasOpen : siteV RX7 127 yX7_hasOpen 1 := ⟨lw_gm 782 (by decide +kernel) rfl, lw_gm 784 (by decide +kernel) rfl, lw_gm 20 (by decide +kernel) rfl, lw_gm 48 (by decide +kernel) rfl, ⟨by decide +kernel, by decide +kernel, by decide +kernel⟩⟩
theorem sX7_X7_bucketNow : siteV RX7 130 yX7_bucketNow 1 := ⟨lw_gm 786 (by decide +kernel) rfl, lw_gm 788 (by decide +kernel) rfl, lw_gm 21 (by decide +kernel) rfl, lw_gm 48 (by decide +kernel) rfl, ⟨by decide +kernel, by decide +kernel, by decide +kernel⟩⟩
theorem sX7_X7_held : siteV RX7 137 yX7_held 1 := ⟨lw_gm 802 (by decide +kernel) rfl, lw_gm 804 (by decide +kernel) rfl, lw_gm 22 (by decide +kernel) rfl, lw_gm 48 (by decide +kernel) rfl, ⟨by decide +kernel, by decide +kernel, by decide +kernel⟩⟩
theorem sX7_X7_ofFlowIn : siteV RX7 140 yX7_ofFlowIn 2 := ⟨lw_gm 806 (by decide +kernel) rfl, lw_gm 808 (by decide +kernel) rfl, lw_gm 23 (by decide +kernel) rfl, lw_gm 48 (by decide +kernel) rfl, ⟨by decide +kernel, by decide +kernel, by decide +kernel⟩⟩
theorem sX7_X7_firstQueued : siteV RX7 150 yX7_firstQueued 1 := ⟨lw_gm 818 (by decide +kernel) rfl, lw_gm 820 (by decide +kernel) rfl, lw_gm 25 (by decide +kernel) rfl, lw_gm 48 (by decide +kernel) rfl, ⟨by decide +kernel, by decide +kernel, by decide +kernel⟩⟩
theorem sX7_X7_firstArriving : siteV RX7 153 yX7_firstArriving 1 := ⟨lw_gm 822 (by decide +kernel) rfl, lw_gm 824 (by decide +kernel) rfl, lw_gm 26 (by decide +kernel) rfl, lw_gm 48 (by decide +kernel) rfl, ⟨by decide +kernel, by decide +kernel, by decide +kernel⟩⟩
theorem sX7_X7_comesOut : siteV RX7 156 yX7_comesOut 1 := ⟨lw_gm 826 (by decide +kernel) rfl, lw_gm 828 (by decide +kernel) rfl, lw_gm 27 (by decide +kernel) rfl, lw_gm 48 (by decide +kernel) rfl, ⟨by decide +kernel, by decide +kernel, by decide +kernel⟩⟩
theorem sX7_X7_isNext : siteV RX7 160 yX7_isNext 1 := ⟨lw_gm 830 (by decide +kernel) rfl, lw_gm 832 (by decide +kernel) rfl, lw_gm 28 (by decide +kernel) rfl, lw_gm 48 (by decide +kernel) rfl, ⟨by decide +kernel, by decide +kernel, by decide +kernel⟩⟩
theorem sX7_X7_settle : siteV RX7 163 yX7_settle 1 := ⟨lw_gm 834 (by decide +kernel) rfl, lw_gm 836 (by decide +kernel) rfl, lw_gm 29 (by decide +kernel) rfl, lw_gm 48 (by decide +kernel) rfl, ⟨by decide +kernel, by decide +kernel, by decide +kernel⟩⟩
theorem sX7_X7_tick1 : siteV RX7 166 yX7_tick1 0 := ⟨lw_gm 814 (by decide +kernel) rfl, lw_gm 816 (by decide +kernel) rfl, lw_gm 24 (by decide +kernel) rfl, lw_gm 48 (by decide +kernel) rfl, ⟨by decide +kernel, by decide +kernel, by decide +kernel⟩⟩
theorem sX7_X7_canCome : siteV RX7 169 yX7_canCome 2 := ⟨lw_gm 838 (by decide +kernel) rfl, lw_gm 840 (by decide +kernel) rfl, lw_gm 30 (by decide +kernel) rfl, lw_gm 48 (by decide +kernel) rfl, ⟨by decide +kernel, by decide +kernel, by decide +kernel⟩⟩
theorem sX7_X7_isBucket : siteS RX7 173 yX7_isBucket 1 := ⟨lw_gm 846 (by decide +kernel) rfl, lw_gm 847 (by decide +kernel) rfl, lw_gm 48 (by decide +kernel) rfl, ⟨by decide +kernel, by decide +kernel, by decide +kernel⟩⟩
theorem sX7_X7_isLink : siteV RX7 176 yX7_isLink 1 := ⟨lw_gm 849 (by decide +kernel) rfl, lw_gm 851 (by decide +kernel) rfl, lw_gm 31 (by decide +kernel) rfl, lw_gm 48 (by decide +kernel) rfl, ⟨by decide +kernel, by decide +kernel, by decide +kernel⟩⟩
theorem sX7_X7_bucketsOn : siteV RX7 179 yX7_bucketsOn 1 := ⟨lw_gm 861 (by decide +kernel) rfl, lw_gm 863 (by decide +kernel) rfl, lw_gm 32 (by decide +kernel) rfl, lw_gm 48 (by decide +kernel) rfl, ⟨by decide +kernel, by decide +kernel, by decide +kernel⟩⟩
theorem sX7_X7_rates : siteV RX7 182 yX7_rates 1 := ⟨lw_gm 885 (by decide +kernel) rfl, lw_gm 887 (by decide +kernel) rfl, lw_gm 35 (by decide +kernel) rfl, lw_gm 48 (by decide +kernel) rfl, ⟨by decide +kernel, by decide +kernel, by decide +kernel⟩⟩
theorem sX7_X7_inState : siteV RX7 185 yX7_inState 2 := ⟨lw_gm 877 (by decide +kernel) rfl, lw_gm 879 (by decide +kernel) rfl, lw_gm 33 (by decide +kernel) rfl, lw_gm 48 (by decide +kernel) rfl, ⟨by decide +kernel, by decide +kernel, by decide +kernel⟩⟩
theorem sX7_X7_load : siteV RX7 188 yX7_load 1 := ⟨lw_gm 881 (by decide +kernel) rfl, lw_gm 883 (by decide +kernel) rfl, lw_gm 34 (by decide +kernel) rfl, lw_gm 48 (by decide +kernel) rfl, ⟨by decide +kernel, by decide +kernel, by decide +kernel⟩⟩
theorem sX7_X7_noneUp : siteV RX7 193 yX7_noneUp 0 := ⟨lw_gm 913 (by decide +kernel) rfl, lw_gm 915 (by decide +kernel) rfl, lw_gm 36 (by decide +kernel) rfl, lw_gm 48 (by decide +kernel) rfl, ⟨by decide +kernel, by decide +kernel, by decide +kernel⟩⟩
theorem sX7_X7_isEven : siteV RX7 197 yX7_isEven 1 := ⟨lw_gm 917 (by decide +kernel) rfl, lw_gm 919 (by decide +kernel) rfl, lw_gm 37 (by decide +kernel) rfl, lw_gm 48 (by decide +kernel) rfl, ⟨by decide +kernel, by decide +kernel, by decide +kernel⟩⟩
theorem sX7_X7_nextUp : siteV RX7 200 yX7_nextUp 1 := ⟨lw_gm 926 (by decide +kernel) rfl, lw_gm 928 (by decide +kernel) rfl, lw_gm 38 (by decide +kernel) rfl, lw_gm 48 (by decide +kernel) rfl, ⟨by decide +kernel, by decide +kernel, by decide +kernel⟩⟩
theorem sX7_X7_turns : siteV RX7 206 yX7_turns 0 := ⟨lw_gm 930 (by decide +kernel) rfl, lw_gm 932 (by decide +kernel) rfl, lw_gm 39 (by decide +kernel) rfl, lw_gm 48 (by decide +kernel) rfl, ⟨by decide +kernel, by decide +kernel, by decide +kernel⟩⟩
end
section
/-! Walking: the rules with open states; counting. -/
section GW
variable {mt : Mt} {d : Nat} {P : PV → Mem → Prop} {pc : Nat} {lv st : List PV} {M : Mem}
theorem gV_s {pc' : Nat} {lv' st' : List PV} {M' : Mem} {φ : Prop} (h : ps mt pc lv st M = some ((pc', lv', st', M'), φ)) (hφ : φ) (kk : gV mt d P pc' lv' st' M') : gV mt d P pc lv st M := gV_st h hφ kk
/-- a branch, open: the condition as it reads; 'not equal' as 'equal' with its ways changed -/
def pbx (mt : Mt) (pc : Nat) (st : List PV) : Option ((Nat × Nat × List PV) × Prop × Prop) :=
  match lk pc mt.2.2.2.2.2 with
  | none => none
  | some (nx, tg, ins) => match ins with
    | .if_icmp op _ => match st with
      | some (.inl y) :: some (.inl x) :: rest => match op with
        | .eq => some ((tg, nx, rest), rng x ∧ rng y, x = y)
        | .ne => some ((nx, tg, rest), rng x ∧ rng y, x = y)
        | .lt => some ((tg, nx, rest), rng x ∧ rng y, x < y)
        | .ge => some ((tg, nx, rest), rng x ∧ rng y, y ≤ x)
        | .gt => some ((tg, nx, rest), rng x ∧ rng y, y < x)
        | .le => some ((tg, nx, rest), rng x ∧ rng y, x ≤ y)
      | _ => none
    | .ifCond op _ => match st with
      | some (.inl x) :: rest => match op with
        | .eq => some ((tg, nx, rest), rng x, x = 0)
        | .ne => some ((nx, tg, rest), rng x, x = 0)
        | .lt => some ((tg, nx, rest), rng x, x < 0)
        | .ge => some ((tg, nx, rest), rng x, 0 ≤ x)
        | .gt => some ((tg, nx, rest), rng x, 0 < x)
        | .le => some ((tg, nx, rest), rng x, x ≤ 0)
      | _ => none
    | _ => none
theorem gV_i {t n : Nat} {rest : List PV} {φ cnd : Prop} (h : pbx mt pc st = some ((t, n, rest), φ, cnd)) (hφ : φ) (kt : cnd → gV mt d P t lv rest M) (kf : ¬ cnd → gV mt d P n lv rest M) : gV mt d P pc lv st M := by
  unfold pbx at h
  cases hl : lk pc mt.2.2.2.2.2 with
  | none => rw [hl] at h; cases h
  | some x =>
    obtain ⟨nx, tg, ins⟩ := x
    rw [hl] at h
    dsimp only at h
    cases ins
    case if_icmp op o =>
      dsimp only at h
      split at h
      next y x rest =>
        cases op
        case ne => cases h; exact icmp_ok hl hφ.1 hφ.2 kf (fun q => kt (Classical.not_not.mp q))
        all_goals (cases h; exact icmp_ok hl hφ.1 hφ.2 kt kf)
      next => cases h
    case ifCond op o =>
      dsimp only at h
      split at h
      next x rest =>
        cases op
        case ne => cases h; exact ifc_ok hl hφ kf (fun q => kt (Classical.not_not.mp q))
        all_goals (cases h; exact ifc_ok hl hφ kt kf)
      next => cases h
    all_goals cases h
/-- a branch that is known -/
theorem gV_it {t n : Nat} {rest : List PV} {φ cnd : Prop} (h : pbx mt pc st = some ((t, n, rest), φ, cnd)) (hφ : φ) (hc : cnd) (kt : gV mt d P t lv rest M) : gV mt d P pc lv st M := gV_i h hφ (fun _ => kt) (fun q => absurd hc q)
theorem gV_in {t n : Nat} {rest : List PV} {φ cnd : Prop} (h : pbx mt pc st = some ((t, n, rest), φ, cnd)) (hφ : φ) (hc : ¬ cnd) (kf : gV mt d P n lv rest M) : gV mt d P pc lv st M := gV_i h hφ (fun q => absurd q hc) (fun _ => kf)
end GW
def ct (p : Int → Bool) : Nat → Int
  | 0 => 0
  | k + 1 => ct p k + (if p k = true then 1 else 0)
theorem ct_0 (p : Int → Bool) : ct p 0 = 0 := rfl
theorem ct_s (p : Int → Bool) (k : Nat) : ct p (k + 1) = ct p k + (if p k = true then 1 else 0) := rfl
theorem ct_nn (p : Int → Bool) : ∀ k : Nat, 0 ≤ ct p k ∧ ct p k ≤ k
  | 0 => ⟨Int.le_refl _, Int.le_refl _⟩
  | k + 1 => by
    have := ct_nn p k
    rw [ct_s]
    split <;> constructor <;> push_cast <;> omega
abbrev is_ (f : Int → Int) (v : Int) : Int → Bool := fun j => decide (f j = v)
theorem howMany_loop {d : Nat} {M : Mem} {l : Int} {P : PV → Mem → Prop} (hl : rng l) (hM : ∀ b, rng (M 19 b)) (hP : P (vI (ct (is_ (M 19) l) 8)) M) : ∀ (n b : Nat), b + n = 8 →
    gV mX0_howManyOn d P 7 [vR 2, vI l, vI (ct (is_ (M 19) l) b), vI b] [vI 8, vI b] M
  | 0, b, h => by
    have hb : b = 8 := by omega
    subst hb
    refine gV_it rfl (by unfold rng; omega) (show (8 : Int) ≤ _ by omega) ?_
    repeat (refine gV_s rfl (by first | exact trivial | omega) ?_)
    exact gV_ret rfl trivial hP
  | n + 1, b, h => by
    have ih := howMany_loop (d := d) hl hM hP n (b + 1) (by omega)
    have h0 := hM b
    refine gV_in rfl (by unfold rng; omega) (show ¬ (8 : Int) ≤ _ by omega) ?_
    repeat (refine gV_s rfl (by first | exact trivial | omega) ?_)
    refine gV_i rfl ⟨h0, hl⟩ (fun h1 => ?_) (fun h1 => ?_)
    · repeat (refine gV_s rfl (by first | exact trivial | omega) ?_)
      rw [ct_s _ b, if_pos (by simpa using h1)] at ih
      exact ih
    · repeat (refine gV_s rfl (by first | exact trivial | omega) ?_)
      rw [ct_s _ b, if_neg (by simpa using h1), Int.add_zero] at ih
      exact ih
theorem ok_howMany {d : Nat} {M : Mem} {l : Int} {P : PV → Mem → Prop} (hl : rng l) (hM : ∀ b, rng (M 19 b)) (hP : P (vI (ct (is_ (M 19) l) 8)) M) : gOk mX0_howManyOn d [vR 2, vI l] M P := by
  refine gOk_of mX0_howManyOn_ok (by simp) (Nat.le_of_ble_eq_true rfl) ?_
  repeat (refine gV_s rfl (by first | exact trivial | omega) ?_)
  exact howMany_loop hl hM hP 8 0 rfl
end
section
/-! The class's state as a whole (rows by the class's cells) and its small steps. -/
def up1 (f : Int → Int) (i v : Int) : Int → Int := fun j => if j = i then v else f j
theorem up1_s (f : Int → Int) (i v : Int) : up1 f i v i = v := by simp [up1]
theorem up1_n (f : Int → Int) {i j : Int} (v : Int) (h : j ≠ i) : up1 f i v j = f j := by simp [up1, h]
theorem up1_e (f : Int → Int) (i v j : Int) : up1 f i v j = if j = i then v else f j := rfl
theorem up1_up1 (f : Int → Int) (i v w : Int) : up1 (up1 f i v) i w = up1 f i w := by funext j; simp only [up1]; split <;> rfl
theorem up1_id (f : Int → Int) (i : Int) : up1 f i (f i) = f := by funext j; simp only [up1]; split <;> simp_all
theorem mw_rs (S : Mem) (r : Nat) (i v : Int) : mw S r i v r = up1 (S r) i v := by funext j; simp [mw, up1]
theorem mw_rn (S : Mem) {r r' : Nat} (i v : Int) (h : r' ≠ r) : mw S r i v r' = S r' := mw_r S i v h
theorem mw_mw (S : Mem) (r : Nat) (i v w : Int) : mw (mw S r i v) r i w = mw S r i w := by funext a b; simp only [mw]; split <;> simp_all
theorem mw_id (S : Mem) (r : Nat) (i : Int) : mw S r i (S r i) = S := by funext a b; simp only [mw]; split <;> simp_all
theorem mem_ext {S T : Mem} (h : ∀ r, S r = T r) : S = T := funext h
/-! counts -/
theorem ct_cong {p q : Int → Bool} : ∀ {n : Nat}, (∀ j : Int, 0 ≤ j → j < n → p j = q j) → ct p n = ct q n
  | 0, _ => rfl
  | n + 1, h => by
    rw [ct_s, ct_s, ct_cong (n := n) (fun j h0 h1 => h j h0 (by omega)), h n (by omega) (by omega)]
def bi (b : Bool) : Int := if b = true then 1 else 0
theorem ct_s' (p : Int → Bool) (k : Nat) : ct p (k + 1) = ct p k + bi (p k) := rfl
theorem ct_chg {p q : Int → Bool} {i : Int} : ∀ {n : Nat}, 0 ≤ i → i < n → (∀ j : Int, j ≠ i → q j = p j) → ct q n = ct p n - bi (p i) + bi (q i)
  | 0, h0, h1, _ => by omega
  | n + 1, h0, h1, h => by
    by_cases hi : i = n
    · subst hi
      rw [ct_s', ct_s', ct_cong (n := n) (p := q) (q := p) (fun j _ h1 => h j (by omega))]
      omega
    · rw [ct_s', ct_s', ct_chg (n := n) h0 (by omega) h, h n (fun q => hi q.symm)]
      omega
theorem ct_pos {p : Int → Bool} {i : Int} : ∀ {n : Nat}, 0 ≤ i → i < n → p i = true → 1 ≤ ct p n
  | 0, h0, h1, _ => by omega
  | n + 1, h0, h1, h => by
    have h2 := ct_nn p n
    rw [ct_s']
    by_cases hi : i = n
    · subst hi
      rw [h]
      simp only [bi, if_true]
      omega
    · have := ct_pos (n := n) h0 (by omega) h
      unfold bi
      split <;> omega
theorem ct_zero {p : Int → Bool} : ∀ {n : Nat}, ct p n = 0 → ∀ i : Int, 0 ≤ i → i < n → p i = false := by
  intro n h i h0 h1
  cases hp : p i with
  | false => rfl
  | true => have := ct_pos (n := n) h0 h1 hp; omega
theorem ct_none {p : Int → Bool} : ∀ {n : Nat}, (∀ i : Int, 0 ≤ i → i < n → p i = false) → ct p n = 0
  | 0, _ => rfl
  | n + 1, h => by
    rw [ct_s', ct_none (n := n) (fun i h0 h1 => h i h0 (by omega)), h n (by omega) (by omega)]
    rfl
theorem ct_le {p q : Int → Bool} : ∀ {n : Nat}, (∀ i : Int, 0 ≤ i → i < n → p i = true → q i = true) → ct p n ≤ ct q n
  | 0, _ => Int.le_refl _
  | n + 1, h => by
    have h1 := ct_le (n := n) (fun i h0 h1 => h i h0 (by omega))
    have h2 := h n (by omega) (by omega)
    rw [ct_s', ct_s']
    unfold bi
    cases hp : p n <;> cases hq : q n <;> simp_all <;> omega
theorem ct_lt {p q : Int → Bool} {i : Int} : ∀ {n : Nat}, (∀ j : Int, 0 ≤ j → j < n → p j = true → q j = true) → 0 ≤ i → i < n → p i = false → q i = true → ct p n < ct q n
  | 0, _, h0, h1, _, _ => by omega
  | n + 1, h, h0, h1, hp, hq => by
    have e1 := ct_le (n := n) (fun i h0 h1 => h i h0 (by omega))
    have e2 := h n (by omega) (by omega)
    rw [ct_s', ct_s']
    by_cases hi : i = n
    · subst hi
      rw [hp, hq]
      simp only [bi, if_true]
      simp
      omega
    · have := ct_lt (n := n) (fun j a b => h j a (by omega)) h0 (by omega) hp hq
      unfold bi
      cases hp : p n <;> cases hq : q n <;> simp_all <;> omega
theorem ct_or {p q r : Int → Bool} : ∀ {n : Nat}, (∀ i : Int, 0 ≤ i → i < n → bi (p i) + bi (q i) = bi (r i)) → ct p n + ct q n = ct r n
  | 0, _ => rfl
  | n + 1, h => by
    have h1 := ct_or (n := n) (fun i h0 h1 => h i h0 (by omega))
    have h2 := h n (by omega) (by omega)
    rw [ct_s', ct_s', ct_s']
    omega
/-! small steps -/
abbrev qr (S : Mem) (l p : Int) : Int := S (11 + l.toNat) p
def aDec (S : Mem) (i : Int) : Mem := mw S 41 (S 34 i) (S 41 (S 34 i) - 1)
def aTurn (S : Mem) (i s : Int) : Mem := mw (mw (aDec S i) 41 s (aDec S i 41 s + 1)) 34 i s
def aEnq (S : Mem) (i l : Int) : Mem := aTurn (mw (mw (mw S (11 + l.toNat) (S 17 l) i) 17 l (S 17 l + 1)) 35 i l) i 1
/-- a held letter is queued: with the count of its bucket's held -/
def aEnqH (S : Mem) (i l : Int) : Mem := mw (aEnq S i l) 22 (S 33 i) (S 22 (S 33 i) - 1)
def aLeave1 (S : Mem) (l : Int) : Mem := mw (mw (aTurn (mw (mw S 37 (qr S l (S 16 l)) (S 5 0)) 38 (qr S l (S 16 l)) (S 5 0 + S 8 l)) (qr S l (S 16 l)) 2) 16 l (S 16 l + 1)) 18 l (S 18 l + 1)
def aNote (S : Mem) (f pl : Int) : Mem :=
  let S1 := mw S 27 f (S 27 f + 1)
  mw (if pl < S1 29 f then mw S1 30 f 1 else S1) 29 f pl
def aLetOut (S : Mem) (i : Int) : Mem :=
  let S1 := mw (aTurn (mw S 40 (S 41 4) i) i 4) 39 i (S 5 0)
  aNote S1 (S 31 i) (S 32 i)
def aArr1 (S : Mem) (l : Int) : Mem :=
  mw (if S 5 1 = 0 then aLetOut S (qr S l (S 15 l)) else aTurn S (qr S l (S 15 l)) 3) 15 l (S 15 l + 1)
/-! rows of the small steps -/
theorem aDec_41 (S : Mem) (i : Int) : aDec S i 41 = up1 (S 41) (S 34 i) (S 41 (S 34 i) - 1) := mw_rs _ _ _ _
theorem aDec_o (S : Mem) (i : Int) {r : Nat} (h : r ≠ 41) : aDec S i r = S r := mw_rn _ _ _ h
theorem aTurn_34 (S : Mem) (i s : Int) : aTurn S i s 34 = up1 (S 34) i s := by
  unfold aTurn
  rw [mw_rs, mw_rn _ _ _ (by decide), aDec_o _ _ (by decide)]
theorem aTurn_41 (S : Mem) (i s : Int) : aTurn S i s 41 = up1 (up1 (S 41) (S 34 i) (S 41 (S 34 i) - 1)) s (up1 (S 41) (S 34 i) (S 41 (S 34 i) - 1) s + 1) := by
  unfold aTurn
  rw [mw_rn _ _ _ (by decide), mw_rs, aDec_41]
theorem aTurn_o (S : Mem) (i s : Int) {r : Nat} (h : r ≠ 34) (h2 : r ≠ 41) : aTurn S i s r = S r := by
  unfold aTurn
  rw [mw_rn _ _ _ h, mw_rn _ _ _ h2, aDec_o _ _ h2]
end
section
/-! What always holds of the class's state. Each part speaks of rows as functions. -/
theorem ct_st {st : Int → Int} {n : Nat} {i s1 : Int} (h0 : 0 ≤ i) (h1 : i < n) (s : Int) : ct (fun j => decide (up1 st i s1 j = s)) n = ct (fun j => decide (st j = s)) n - (if st i = s then 1 else 0) + (if s1 = s then 1 else 0) := by
  rw [ct_chg (p := fun j => decide (st j = s)) (q := fun j => decide (up1 st i s1 j = s)) h0 h1 (fun j hj => by simp only [up1_n st s1 hj])]
  simp only [up1_s, bi, decide_eq_true_eq]
theorem ct_st2 {st g : Int → Int} {n : Nat} {i s1 : Int} (h0 : 0 ≤ i) (h1 : i < n) (s v : Int) : ct (fun j => decide (up1 st i s1 j = s ∧ g j = v)) n = ct (fun j => decide (st j = s ∧ g j = v)) n - (if st i = s ∧ g i = v then 1 else 0) + (if s1 = s ∧ g i = v then 1 else 0) := by
  rw [ct_chg (p := fun j => decide (st j = s ∧ g j = v)) (q := fun j => decide (up1 st i s1 j = s ∧ g j = v)) h0 h1 (fun j hj => by simp only [up1_n st s1 hj])]
  simp only [up1_s, bi, decide_eq_true_eq]
theorem ct_st3 {st g : Int → Int} {n : Nat} {i s1 l1 : Int} (h0 : 0 ≤ i) (h1 : i < n) (s v : Int) : ct (fun j => decide (up1 st i s1 j = s ∧ up1 g i l1 j = v)) n = ct (fun j => decide (st j = s ∧ g j = v)) n - (if st i = s ∧ g i = v then 1 else 0) + (if s1 = s ∧ l1 = v then 1 else 0) := by
  rw [ct_chg (p := fun j => decide (st j = s ∧ g j = v)) (q := fun j => decide (up1 st i s1 j = s ∧ up1 g i l1 j = v)) h0 h1 (fun j hj => by simp only [up1_n st s1 hj, up1_n g l1 hj])]
  simp only [up1_s, bi, decide_eq_true_eq]
theorem turn_val (g : Int → Int) (a c s : Int) : up1 (up1 g a (g a - 1)) c (up1 g a (g a - 1) c + 1) s = g s - (if s = a then 1 else 0) + (if s = c then 1 else 0) := by
  simp only [up1]
  split <;> split <;> simp_all <;> omega
/-- counts by states -/
def Ks (n : Int) (st ins : Int → Int) : Prop := ∀ s, 0 ≤ s → s < 6 → ins s = ct (fun j => decide (st j = s)) n.toNat
def Kh (n : Int) (st bk held : Int → Int) : Prop := ∀ b, 0 ≤ b → b < 8 → held b = ct (fun j => decide (st j = 0 ∧ bk j = b)) n.toNat
def Kf (n : Int) (st fl sent came lost : Int → Int) : Prop := ∀ f, 0 ≤ f → f < 16 → sent f = ct (fun j => decide (fl j = f)) n.toNat ∧ came f = ct (fun j => decide (st j = 4 ∧ fl j = f)) n.toNat ∧ lost f = ct (fun j => decide (st j = 5 ∧ fl j = f)) n.toNat
def Kl (n : Int) (st lk ws qs qe : Int → Int) : Prop := ∀ l, 0 ≤ l → l < 4 → qe l = ct (fun j => decide (lk j = l)) n.toNat ∧ qe l - qs l = ct (fun j => decide (st j = 1 ∧ lk j = l)) n.toNat ∧ qs l - ws l = ct (fun j => decide (st j = 2 ∧ lk j = l)) n.toNat
/-- queues -/
def Jq (n tm : Int) (lo st lk ar dl up ws qs qe : Int → Int) (rw : Int → Int → Int) : Prop := ∀ l, 0 ≤ l → l < 4 →
  (0 ≤ ws l ∧ ws l ≤ qs l ∧ qs l ≤ qe l) ∧
  (∀ p, 0 ≤ p → p < qe l → (0 ≤ rw l p ∧ rw l p < n ∧ lk (rw l p) = l) ∧ (p < ws l → 3 ≤ st (rw l p)) ∧ (ws l ≤ p → p < qs l → st (rw l p) = 2 ∧ lo l < ar (rw l p) ∧ ar (rw l p) ≤ tm + dl l) ∧ (qs l ≤ p → st (rw l p) = 1)) ∧
  (∀ p p', 0 ≤ p → p < p' → p' < qe l → rw l p ≠ rw l p') ∧
  (∀ p p', ws l ≤ p → p ≤ p' → p' < qs l → ar (rw l p) ≤ ar (rw l p')) ∧
  (up l = 0 → ws l = qe l)
def Ji (n L : Int) (st lk qe : Int → Int) (rw : Int → Int → Int) : Prop := ∀ i, 0 ≤ i → i < n → (lk i = -6 ∧ st i = 0) ∨ (0 ≤ lk i ∧ lk i < L ∧ 1 ≤ st i ∧ ∃ p, 0 ≤ p ∧ p < qe (lk i) ∧ rw (lk i) p = i)
/-- what came out -/
def lastP (out fl pl : Int → Int) (f : Int) : Nat → Int
  | 0 => -6
  | k + 1 => if fl (out k) = f then pl (out k) else lastP out fl pl f k
def mixP (out fl pl : Int → Int) (f : Int) : Nat → Bool
  | 0 => false
  | k + 1 => mixP out fl pl f k || (decide (fl (out k) = f) && decide (pl (out k) < lastP out fl pl f k))
def Jo (n F : Int) (fl pl ins out late mix : Int → Int) : Prop :=
  (∀ k, 0 ≤ k → k < ins 4 → 0 ≤ out k ∧ out k < n) ∧
  (∀ f, 0 ≤ f → f < F → late f = lastP out fl pl f (ins 4).toNat ∧ mix f = bi (mixP out fl pl f (ins 4).toNat)) ∧
  (∀ f, -6 ≤ late f ∧ late f ≤ 400) ∧ (∀ f, F ≤ f → mix f = 0)
def Ja (S : Mem) : Prop := (0 ≤ S 1 0 ∧ S 1 0 ≤ 4) ∧ (0 ≤ S 3 0 ∧ S 3 0 ≤ 16) ∧ (0 ≤ S 4 0 ∧ S 4 0 ≤ 400) ∧ (0 ≤ S 5 0 ∧ S 5 0 ≤ 1000000) ∧ (S 5 1 = 0 ∨ S 5 1 = 1) ∧ (0 ≤ S 3 1 ∧ S 3 1 ≤ 7) ∧ (0 ≤ S 3 2 ∧ S 3 2 ≤ 7) ∧ (S 6 0 = 0 ∨ S 6 0 = 1)
def Jl (L : Int) (sp dl up : Int → Int) : Prop := (∀ l, 0 ≤ l → l < L → 1 ≤ sp l ∧ 1 ≤ dl l) ∧ (∀ l, up l = 0 ∨ (up l = 1 ∧ 0 ≤ l ∧ l < L)) ∧ (∀ l, 0 ≤ sp l ∧ sp l ≤ 8 ∧ 0 ≤ dl l ∧ dl l ≤ 30)
/-- buckets; x: a link that has just failed -/
def Jb (L x : Int) (up on to ho : Int → Int) : Prop := ∀ b, (on b = -6 ∨ (0 ≤ on b ∧ on b < L ∧ (up (on b) = 1 ∨ on b = x))) ∧ (to b = -6 ∨ (0 ≤ to b ∧ to b < L ∧ (up (to b) = 1 ∨ to b = x) ∧ on b ≠ -6 ∧ to b ≠ on b)) ∧ (ho b = 0 ∨ ho b = 1) ∧ (ho b = 1 → on b ≠ -6) ∧ (b < 0 ∨ 8 ≤ b → on b = -6 ∧ to b = -6)
/-- where a link is up each bucket is on one (x is -2: while a link takes them) -/
def Jn (x : Int) (up on : Int → Int) : Prop := x ≠ -2 → (∃ l, up l = 1) → ∀ b, 0 ≤ b → b < 8 → on b ≠ -6
def Jh (n : Int) (st bk on ho : Int → Int) : Prop := ∀ i, 0 ≤ i → i < n → st i = 0 → ho (bk i) = 1 ∨ on (bk i) = -6
def Jf (ra pn : Int → Int) : Prop := ∀ f, (0 ≤ ra f ∧ ra f ≤ 100) ∧ -1 ≤ pn f ∧ pn f ≤ 7
def Jt (n F : Int) (fl pl bk st ar : Int → Int) : Prop := ∀ i, (0 ≤ fl i ∧ fl i < 16 ∧ (0 ≤ i → i < n → fl i < F)) ∧ (0 ≤ pl i ∧ pl i ≤ 400) ∧ (0 ≤ bk i ∧ bk i < 8) ∧ (0 ≤ st i ∧ st i ≤ 5) ∧ (-6 ≤ ar i ∧ ar i ≤ 2000000)
def AI (S : Mem) (lo : Int → Int) (x : Int) : Prop :=
  Ja S ∧ Jl (S 1 0) (S 7) (S 8) (S 9) ∧ Jb (S 1 0) x (S 9) (S 19) (S 20) (S 21) ∧ Jn x (S 9) (S 19) ∧ Jh (S 4 0) (S 34) (S 33) (S 19) (S 21) ∧ Jf (S 24) (S 25) ∧
  Jt (S 4 0) (S 3 0) (S 31) (S 32) (S 33) (S 34) (S 38) ∧
  Ks (S 4 0) (S 34) (S 41) ∧ Kh (S 4 0) (S 34) (S 33) (S 22) ∧ Kf (S 4 0) (S 34) (S 31) (S 26) (S 27) (S 28) ∧ Kl (S 4 0) (S 34) (S 35) (S 15) (S 16) (S 17) ∧
  Jq (S 4 0) (S 5 0) lo (S 34) (S 35) (S 38) (S 8) (S 9) (S 15) (S 16) (S 17) (qr S) ∧ Ji (S 4 0) (S 1 0) (S 34) (S 35) (S 17) (qr S) ∧
  Jo (S 4 0) (S 3 0) (S 31) (S 32) (S 41) (S 40) (S 29) (S 30)
/-! a letter changes its state -/
theorem Ks_turn {n i s1 : Int} {st ins : Int → Int} (h : Ks n st ins) (h0 : 0 ≤ i) (h1 : i < n) : Ks n (up1 st i s1) (up1 (up1 ins (st i) (ins (st i) - 1)) s1 (up1 ins (st i) (ins (st i) - 1) s1 + 1)) := by
  intro s a b
  rw [turn_val, ct_st h0 (by omega), h s a b]
  by_cases e1 : s = st i <;> by_cases e2 : s = s1 <;> simp_all <;> omega
theorem Kh_turn {n i s1 : Int} {st bk held : Int → Int} (h : Kh n st bk held) (h0 : 0 ≤ i) (h1 : i < n) (hs : st i ≠ 0) (hs1 : s1 ≠ 0) : Kh n (up1 st i s1) bk held := by
  intro b h2 h3
  rw [ct_st2 h0 (by omega), h b h2 h3]
  simp [hs, hs1]
theorem Kh_enq {n i s1 : Int} {st bk held : Int → Int} (h : Kh n st bk held) (h0 : 0 ≤ i) (h1 : i < n) (hs : st i = 0) (hs1 : s1 ≠ 0) : Kh n (up1 st i s1) bk (up1 held (bk i) (held (bk i) - 1)) := by
  intro b h2 h3
  rw [ct_st2 h0 (by omega), up1_e]
  by_cases e : b = bk i
  · subst e
    simp [hs, hs1, h (bk i) h2 h3]
  · simp [e, Ne.symm e, hs, hs1, h b h2 h3]
theorem Kf_turn {n i s1 : Int} {st fl sent came lost : Int → Int} (h : Kf n st fl sent came lost) (h0 : 0 ≤ i) (h1 : i < n) (hs : st i ≠ 4 ∧ st i ≠ 5) (hs1 : s1 ≠ 4 ∧ s1 ≠ 5) : Kf n (up1 st i s1) fl sent came lost := by
  intro f h2 h3
  rw [ct_st2 h0 (by omega), ct_st2 h0 (by omega)]
  have := h f h2 h3
  simp [hs, hs1, this]
theorem Kf_out {n i : Int} {st fl sent came lost : Int → Int} (h : Kf n st fl sent came lost) (h0 : 0 ≤ i) (h1 : i < n) (hs : st i ≠ 4 ∧ st i ≠ 5) : Kf n (up1 st i 4) fl sent (up1 came (fl i) (came (fl i) + 1)) lost := by
  intro f h2 h3
  rw [ct_st2 h0 (by omega), ct_st2 h0 (by omega), up1_e]
  have h4 := h f h2 h3
  by_cases e : f = fl i
  · subst e
    simp [hs, h4]
  · simp [e, Ne.symm e, hs, h4]
theorem Kl_turn {n i s1 : Int} {st lk ws qs qe : Int → Int} (h : Kl n st lk ws qs qe) (h0 : 0 ≤ i) (h1 : i < n) (hs : st i ≠ 1 ∧ st i ≠ 2) (hs1 : s1 ≠ 1 ∧ s1 ≠ 2) : Kl n (up1 st i s1) lk ws qs qe := by
  intro l h2 h3
  have h4 := h l h2 h3
  rw [ct_st2 h0 (by omega), ct_st2 h0 (by omega), ← h4.1, ← h4.2.1, ← h4.2.2]
  simp [hs, hs1]
theorem Kl_enq {n i l1 : Int} {st lk ws qs qe : Int → Int} (h : Kl n st lk ws qs qe) (h0 : 0 ≤ i) (h1 : i < n) (hs : st i = 0) (hl : lk i = -6) : Kl n (up1 st i 1) (up1 lk i l1) ws qs (up1 qe l1 (qe l1 + 1)) := by
  intro l h2 h3
  have h4 := h l h2 h3
  rw [ct_st3 h0 (by omega), ct_st3 h0 (by omega), ct_st h0 (by omega), up1_e, ← h4.1, ← h4.2.1, ← h4.2.2]
  by_cases e : l = l1
  · subst e
    simp [hs, hl, show ¬ (-6 : Int) = l by omega]
    omega
  · simp [e, Ne.symm e, hs, hl, show ¬ (-6 : Int) = l by omega]
theorem Kl_leave {n i l1 : Int} {st lk ws qs qe : Int → Int} (h : Kl n st lk ws qs qe) (h0 : 0 ≤ i) (h1 : i < n) (hs : st i = 1) (hl : lk i = l1) : Kl n (up1 st i 2) lk ws (up1 qs l1 (qs l1 + 1)) qe := by
  intro l h2 h3
  have h4 := h l h2 h3
  rw [ct_st2 h0 (by omega), ct_st2 h0 (by omega), up1_e, ← h4.1, ← h4.2.1, ← h4.2.2]
  by_cases e : l = l1
  · subst e
    simp [hs, hl]
    omega
  · simp [e, hs, hl, Ne.symm e]
theorem Kl_arr {n i l1 s1 : Int} {st lk ws qs qe : Int → Int} (h : Kl n st lk ws qs qe) (h0 : 0 ≤ i) (h1 : i < n) (hs : st i = 2) (hs1 : s1 ≠ 1 ∧ s1 ≠ 2) (hl : lk i = l1) : Kl n (up1 st i s1) lk (up1 ws l1 (ws l1 + 1)) qs qe := by
  intro l h2 h3
  have h4 := h l h2 h3
  rw [ct_st2 h0 (by omega), ct_st2 h0 (by omega), up1_e, ← h4.1, ← h4.2.1, ← h4.2.2]
  by_cases e : l = l1
  · subst e
    simp [hs, hl, hs1]
    omega
  · simp [e, hs, hl, hs1, Ne.symm e]
end
section
/-! The queues through the small steps. -/
def rw1 (rw : Int → Int → Int) (l p i : Int) : Int → Int → Int := fun a b => if a = l ∧ b = p then i else rw a b
theorem Jq_enq {n tm i l1 : Int} {lo st lk ar dl up ws qs qe : Int → Int} {rw : Int → Int → Int} (h : Jq n tm lo st lk ar dl up ws qs qe rw) (h0 : 0 ≤ i) (h1 : i < n) (hl : lk i = -6) (hl1 : up l1 ≠ 0) :
    Jq n tm lo (up1 st i 1) (up1 lk i l1) ar dl up ws qs (up1 qe l1 (qe l1 + 1)) (rw1 rw l1 (qe l1) i) := by
  intro l a b
  obtain ⟨⟨q1, q2, q3⟩, q4, q5, q6, q7⟩ := h l a b
  have key : ∀ p, 0 ≤ p → p < qe l → rw l p ≠ i := fun p p0 p1 e => by
    have := (q4 p p0 p1).1.2.2
    rw [e, hl] at this
    omega
  by_cases e : l = l1
  · subst e
    simp only [up1_s]
    refine ⟨⟨q1, q2, by omega⟩, fun p p0 p1 => ?_, fun p p' p0 p1 p2 => ?_, fun p p' p0 p1 p2 => ?_, fun q => absurd q hl1⟩
    · by_cases e2 : p = qe l
      · subst e2
        simp only [rw1, true_and, and_self, if_true, up1_s]
        exact ⟨⟨h0, h1, trivial⟩, fun _ => by omega, fun _ _ => by omega, fun _ => trivial⟩
      · have hk := key p p0 (by omega)
        simp only [rw1, e2, and_false, if_false, up1_n _ _ hk]
        exact q4 p p0 (by omega)
    · by_cases e2 : p' = qe l
      · have e3 : p ≠ qe l := by omega
        simp only [rw1, e2, e3, and_false, if_false, and_self, if_true]
        exact key p p0 (by omega)
      · have e3 : p ≠ qe l := by omega
        simp only [rw1, e2, e3, and_false, if_false]
        exact q5 p p' p0 p1 (by omega)
    · have e2 : p ≠ qe l := by omega
      have e3 : p' ≠ qe l := by omega
      simp only [rw1, e2, e3, and_false, if_false]
      exact q6 p p' p0 p1 p2
  · simp only [up1_n _ _ e, rw1, e, false_and, if_false]
    refine ⟨⟨q1, q2, q3⟩, fun p p0 p1 => ?_, q5, q6, q7⟩
    have hk := key p p0 p1
    simp only [up1_n _ _ hk]
    exact q4 p p0 p1
theorem Ji_enq {n L i l1 : Int} {st lk qe : Int → Int} {rw : Int → Int → Int} (h : Ji n L st lk qe rw) (hl1 : 0 ≤ l1 ∧ l1 < L) (hqe : 0 ≤ qe l1) :
    Ji n L (up1 st i 1) (up1 lk i l1) (up1 qe l1 (qe l1 + 1)) (rw1 rw l1 (qe l1) i) := by
  intro j j0 j1
  by_cases e : j = i
  · subst e
    right
    simp only [up1_s]
    refine ⟨hl1.1, hl1.2, by omega, qe l1, hqe, by omega, by simp [rw1]⟩
  · simp only [up1_n _ _ e]
    rcases h j j0 j1 with q | ⟨q1, q2, q3, p, q4, q5, q6⟩
    · exact Or.inl q
    · right
      refine ⟨q1, q2, q3, p, q4, ?_, ?_⟩
      · simp only [up1]
        split <;> rename_i e2
        · rw [e2] at q5; omega
        · exact q5
      · have : ¬ (lk j = l1 ∧ p = qe l1) := fun ⟨a, b⟩ => by rw [a] at q5; omega
        simp only [rw1, this, if_false]
        exact q6
theorem Jq_leave {n tm l1 : Int} {lo st lk ar dl up ws qs qe : Int → Int} {rw : Int → Int → Int} (h : Jq n tm lo st lk ar dl up ws qs qe rw) (a1 : 0 ≤ l1) (b1 : l1 < 4) (hq : qs l1 < qe l1) (hlo : lo l1 < tm + dl l1) (hup : up l1 ≠ 0) :
    Jq n tm lo (up1 st (rw l1 (qs l1)) 2) lk (up1 ar (rw l1 (qs l1)) (tm + dl l1)) dl up ws (up1 qs l1 (qs l1 + 1)) qe rw := by
  intro l a b
  obtain ⟨⟨q1, q2, q3⟩, q4, q5, q6, q7⟩ := h l a b
  by_cases e : l = l1
  · subst e
    simp only [up1_s]
    have key : ∀ p, 0 ≤ p → p < qe l → p ≠ qs l → rw l p ≠ rw l (qs l) := fun p p0 p1 p2 => by
      by_cases h9 : p < qs l
      · exact q5 p (qs l) p0 h9 hq
      · exact (q5 (qs l) p (by omega) (by omega) p1).symm
    refine ⟨⟨q1, by omega, by omega⟩, fun p p0 p1 => ?_, q5, fun p p' p0 p1 p2 => ?_, fun q => absurd q hup⟩
    · have h4 := q4 p p0 p1
      by_cases e2 : p = qs l
      · subst e2
        simp only [up1_s]
        exact ⟨h4.1, fun _ => by omega, fun _ _ => ⟨trivial, hlo, by omega⟩, fun _ => by omega⟩
      · have hk := key p p0 p1 e2
        simp only [up1_n _ _ hk]
        exact ⟨h4.1, h4.2.1, fun x y => h4.2.2.1 x (by omega), fun x => h4.2.2.2 (by omega)⟩
    · by_cases e2 : p' = qs l
      · subst e2
        simp only [up1_s]
        by_cases e3 : p = qs l
        · subst e3
          simp only [up1_s]
          omega
        · have hk := key p (by omega) (by omega) e3
          simp only [up1_n _ _ hk]
          exact ((q4 p (by omega) (by omega)).2.2.1 p0 (by omega)).2.2
      · have hk := key p (by omega) (by omega) (by omega)
        have hk2 := key p' (by omega) (by omega) e2
        simp only [up1_n _ _ hk, up1_n _ _ hk2]
        exact q6 p p' p0 p1 (by omega)
  · obtain ⟨⟨s1, s2, s3⟩, s4, s5, s6, s7⟩ := h l1 a1 b1
    have hi := (s4 (qs l1) (by omega) hq).1.2.2
    have key : ∀ p, 0 ≤ p → p < qe l → rw l p ≠ rw l1 (qs l1) := fun p p0 p1 e2 => by
      have := (q4 p p0 p1).1.2.2
      rw [e2, hi] at this
      omega
    simp only [up1_n _ _ e]
    refine ⟨⟨q1, q2, q3⟩, fun p p0 p1 => ?_, q5, fun p p' p0 p1 p2 => ?_, q7⟩
    · have hk := key p p0 p1
      simp only [up1_n _ _ hk]
      exact q4 p p0 p1
    · have hk := key p (by omega) (by omega)
      have hk2 := key p' (by omega) (by omega)
      simp only [up1_n _ _ hk, up1_n _ _ hk2]
      exact q6 p p' p0 p1 p2
theorem Jq_arr {n tm l1 s1 : Int} {lo st lk ar dl up ws qs qe : Int → Int} {rw : Int → Int → Int} (h : Jq n tm lo st lk ar dl up ws qs qe rw) (a1 : 0 ≤ l1) (b1 : l1 < 4) (hq : ws l1 < qs l1) (hs1 : 3 ≤ s1) :
    Jq n tm lo (up1 st (rw l1 (ws l1)) s1) lk ar dl up (up1 ws l1 (ws l1 + 1)) qs qe rw := by
  intro l a b
  obtain ⟨⟨q1, q2, q3⟩, q4, q5, q6, q7⟩ := h l a b
  by_cases e : l = l1
  · subst e
    simp only [up1_s]
    have key : ∀ p, 0 ≤ p → p < qe l → p ≠ ws l → rw l p ≠ rw l (ws l) := fun p p0 p1 p2 => by
      by_cases h9 : p < ws l
      · exact q5 p (ws l) p0 h9 (by omega)
      · exact (q5 (ws l) p (by omega) (by omega) p1).symm
    refine ⟨⟨by omega, by omega, by omega⟩, fun p p0 p1 => ?_, q5, fun p p' p0 p1 p2 => q6 p p' (by omega) p1 p2, fun q => by have := q7 q; omega⟩
    have h4 := q4 p p0 p1
    by_cases e2 : p = ws l
    · subst e2
      simp only [up1_s]
      exact ⟨h4.1, fun _ => hs1, fun _ _ => by omega, fun _ => by omega⟩
    · have hk := key p p0 p1 e2
      simp only [up1_n _ _ hk]
      exact ⟨h4.1, fun x => h4.2.1 (by omega), fun x y => h4.2.2.1 (by omega) y, h4.2.2.2⟩
  · obtain ⟨⟨s1, s2, s3⟩, s4, s5, s6, s7⟩ := h l1 a1 b1
    have hi := (s4 (ws l1) (by omega) (by omega)).1.2.2
    have key : ∀ p, 0 ≤ p → p < qe l → rw l p ≠ rw l1 (ws l1) := fun p p0 p1 e2 => by
      have := (q4 p p0 p1).1.2.2
      rw [e2, hi] at this
      omega
    simp only [up1_n _ _ e]
    refine ⟨⟨q1, q2, q3⟩, fun p p0 p1 => ?_, q5, q6, q7⟩
    have hk := key p p0 p1
    simp only [up1_n _ _ hk]
    exact q4 p p0 p1
/-- a letter behind the way changes -/
theorem Jq_out {n tm i s1 : Int} {lo st lk ar dl up ws qs qe : Int → Int} {rw : Int → Int → Int} (h : Jq n tm lo st lk ar dl up ws qs qe rw) (hs : 3 ≤ st i) (hs1 : 3 ≤ s1) :
    Jq n tm lo (up1 st i s1) lk ar dl up ws qs qe rw := by
  intro l a b
  obtain ⟨q123, q4, q5, q6, q7⟩ := h l a b
  refine ⟨q123, fun p p0 p1 => ?_, q5, q6, q7⟩
  obtain ⟨g1, g2, g3, g4⟩ := q4 p p0 p1
  by_cases e : rw l p = i
  · rw [e] at g1 g2 g3 g4 ⊢
    simp only [up1_s]
    exact ⟨g1, fun _ => hs1, fun x y => by have := (g3 x y).1; omega, fun x => by have := g4 x; omega⟩
  · simp only [up1_n _ _ e]
    exact ⟨g1, g2, g3, g4⟩
theorem Ji_turn {n L i s1 : Int} {st lk qe : Int → Int} {rw : Int → Int → Int} (h : Ji n L st lk qe rw) (hs : 1 ≤ st i) (hs1 : 1 ≤ s1) : Ji n L (up1 st i s1) lk qe rw := by
  intro j j0 j1
  by_cases e : j = i
  · subst e
    rcases h j j0 j1 with ⟨-, q⟩ | ⟨q1, q2, q3, q4⟩
    · omega
    · right
      simp only [up1_s]
      exact ⟨q1, q2, hs1, q4⟩
  · simp only [up1_n _ _ e]
    exact h j j0 j1
theorem Jh_turn {n i s1 : Int} {st bk on ho : Int → Int} (h : Jh n st bk on ho) (hs1 : s1 ≠ 0) : Jh n (up1 st i s1) bk on ho := by
  intro j j0 j1 j2
  by_cases e : j = i
  · subst e
    rw [up1_s] at j2
    exact absurd j2 hs1
  · rw [up1_n _ _ e] at j2
    exact h j j0 j1 j2
theorem Jt_turn {n F i s1 : Int} {fl pl bk st ar : Int → Int} (h : Jt n F fl pl bk st ar) (hs1 : 0 ≤ s1 ∧ s1 ≤ 5) : Jt n F fl pl bk (up1 st i s1) ar := by
  intro j
  obtain ⟨q1, q2, q3, q4, q5⟩ := h j
  refine ⟨q1, q2, q3, ?_, q5⟩
  simp only [up1]
  split
  · exact hs1
  · exact q4
theorem Jt_ar {n F i v : Int} {fl pl bk st ar : Int → Int} (h : Jt n F fl pl bk st ar) (hv : -6 ≤ v ∧ v ≤ 2000000) : Jt n F fl pl bk st (up1 ar i v) := by
  intro j
  obtain ⟨q1, q2, q3, q4, q5⟩ := h j
  refine ⟨q1, q2, q3, q4, ?_⟩
  simp only [up1]
  split
  · exact hv
  · exact q5
theorem lastP_cong {out out' fl fl' pl pl' : Int → Int} {f : Int} : ∀ {k : Nat}, (∀ j : Int, 0 ≤ j → j < k → fl' (out' j) = fl (out j) ∧ pl' (out' j) = pl (out j)) → lastP out' fl' pl' f k = lastP out fl pl f k
  | 0, _ => rfl
  | k + 1, h => by
    have h1 := h k (by omega) (by omega)
    simp only [lastP, h1.1, h1.2, lastP_cong (k := k) (fun j a b => h j a (by omega))]
theorem mixP_cong {out out' fl fl' pl pl' : Int → Int} {f : Int} : ∀ {k : Nat}, (∀ j : Int, 0 ≤ j → j < k → fl' (out' j) = fl (out j) ∧ pl' (out' j) = pl (out j)) → mixP out' fl' pl' f k = mixP out fl pl f k
  | 0, _ => rfl
  | k + 1, h => by
    have h1 := h k (by omega) (by omega)
    have h2 : ∀ j : Int, 0 ≤ j → j < k → fl' (out' j) = fl (out j) ∧ pl' (out' j) = pl (out j) := fun j a b => h j a (by omega)
    simp only [mixP, h1.1, h1.2, mixP_cong h2, lastP_cong h2]
/-- counts of states that aren't 'out' change -/
theorem Jo_ins {n F : Int} {fl pl ins ins' out late mix : Int → Int} (h : Jo n F fl pl ins out late mix) (he : ins' 4 = ins 4) : Jo n F fl pl ins' out late mix := by
  unfold Jo
  rw [he]
  exact h
theorem Jo_out {n F i : Int} {fl pl ins ins' out late mix : Int → Int} (h : Jo n F fl pl ins out late mix) (hi : 0 ≤ i ∧ i < n) (h0 : 0 ≤ ins 4) (he : ins' 4 = ins 4 + 1) (hp : 0 ≤ pl i ∧ pl i ≤ 400) (hfl : fl i < F) :
    Jo n F fl pl ins' (up1 out (ins 4) i) (up1 late (fl i) (pl i)) (if pl i < late (fl i) then up1 mix (fl i) 1 else mix) := by
  obtain ⟨h1, h2, h3, h4⟩ := h
  have hn : (ins' 4).toNat = (ins 4).toNat + 1 := by omega
  have hc : (((ins 4).toNat : Nat) : Int) = ins 4 := by omega
  have hcg : ∀ j : Int, 0 ≤ j → j < (ins 4).toNat → fl (up1 out (ins 4) i j) = fl (out j) ∧ pl (up1 out (ins 4) i j) = pl (out j) := fun j a b => by
    rw [up1_n _ _ (by omega)]
    exact ⟨rfl, rfl⟩
  refine ⟨fun k k0 k1 => ?_, fun f f0 f1 => ?_, fun f => ?_, fun f hf => ?_⟩
  · by_cases e : k = ins 4
    · subst e
      rw [up1_s]
      exact hi
    · rw [up1_n _ _ e]
      exact h1 k k0 (by omega)
  · obtain ⟨g1, g2⟩ := h2 f f0 f1
    rw [hn]
    simp only [lastP, mixP, lastP_cong hcg, mixP_cong hcg]
    rw [hc, up1_s, ← g1]
    by_cases e : fl i = f
    · rw [if_pos e]
      subst e
      rw [up1_s]
      refine ⟨rfl, ?_⟩
      by_cases e2 : pl i < late (fl i)
      · rw [if_pos e2, up1_s]
        simp [e2, bi]
      · rw [if_neg e2, g2]
        simp [e2]
    · rw [if_neg e, up1_n _ _ (fun q => e q.symm)]
      refine ⟨rfl, ?_⟩
      have : (if pl i < late (fl i) then up1 mix (fl i) 1 else mix) f = mix f := by
        split
        · exact up1_n _ _ (fun q => e q.symm)
        · rfl
      rw [this, g2]
      simp [e]
  · simp only [up1]
    split
    · omega
    · exact h3 f
  · split
    · rw [up1_n _ _ (by omega)]; exact h4 f hf
    · exact h4 f hf
end
section
/-! The invariant through the small steps. -/
theorem Jq_rw {n tm : Int} {lo st lk ar dl up ws qs qe : Int → Int} {rw rw' : Int → Int → Int} (h : Jq n tm lo st lk ar dl up ws qs qe rw) (hr : ∀ l p, 0 ≤ l → l < 4 → rw' l p = rw l p) : Jq n tm lo st lk ar dl up ws qs qe rw' := by
  intro l a b
  have h1 := h l a b
  simp only [hr _ _ a b]
  exact h1
theorem Ji_rw {n L : Int} {st lk qe : Int → Int} {rw rw' : Int → Int → Int} (h : Ji n L st lk qe rw) (hL : L ≤ 4) (hr : ∀ l p, 0 ≤ l → l < 4 → rw' l p = rw l p) : Ji n L st lk qe rw' := by
  intro i a b
  rcases h i a b with q | ⟨q1, q2, q3, p, q4, q5, q6⟩
  · exact Or.inl q
  · exact Or.inr ⟨q1, q2, q3, p, q4, q5, by rw [hr _ _ q1 (by omega)]; exact q6⟩
/-- rows of a queued letter -/
theorem aEnq_o (S : Mem) (i l : Int) {r : Nat} (h1 : r ≠ 17) (h2 : r ≠ 34) (h3 : r ≠ 35) (h4 : r ≠ 41) (h5 : r ≠ 11 + l.toNat) : aEnq S i l r = S r := by
  unfold aEnq
  rw [aTurn_o _ _ _ h2 h4, mw_rn _ _ _ h3, mw_rn _ _ _ h1, mw_rn _ _ _ h5]
theorem aEnq_17 (S : Mem) (i : Int) {l : Int} (hl : l < 4) : aEnq S i l 17 = up1 (S 17) l (S 17 l + 1) := by
  unfold aEnq
  rw [aTurn_o _ _ _ (by decide) (by decide), mw_rn _ _ _ (by decide), mw_rs, mw_rn _ _ _ (by omega)]
theorem aEnq_35 (S : Mem) (i : Int) {l : Int} (hl : l < 4) : aEnq S i l 35 = up1 (S 35) i l := by
  unfold aEnq
  rw [aTurn_o _ _ _ (by decide) (by decide), mw_rs, mw_rn _ _ _ (by decide), mw_rn _ _ _ (by omega)]
theorem aEnq_34 (S : Mem) (i : Int) {l : Int} (hl : l < 4) : aEnq S i l 34 = up1 (S 34) i 1 := by
  unfold aEnq
  rw [aTurn_34, mw_rn _ _ _ (by decide), mw_rn _ _ _ (by decide), mw_rn _ _ _ (by omega)]
theorem aEnq_41 (S : Mem) (i : Int) {l : Int} (hl : l < 4) : aEnq S i l 41 = up1 (up1 (S 41) (S 34 i) (S 41 (S 34 i) - 1)) 1 (up1 (S 41) (S 34 i) (S 41 (S 34 i) - 1) 1 + 1) := by
  unfold aEnq
  rw [aTurn_41]
  simp only [mw_rn _ _ _ (show (34 : Nat) ≠ 35 by decide), mw_rn _ _ _ (show (34 : Nat) ≠ 17 by decide), mw_rn _ _ _ (show (34 : Nat) ≠ 11 + l.toNat by omega), mw_rn _ _ _ (show (41 : Nat) ≠ 35 by decide), mw_rn _ _ _ (show (41 : Nat) ≠ 17 by decide), mw_rn _ _ _ (show (41 : Nat) ≠ 11 + l.toNat by omega)]
theorem aEnq_qr (S : Mem) (i : Int) {l : Int} (h0 : 0 ≤ l) (hl : l < 4) (l' p : Int) (h0' : 0 ≤ l') (hl' : l' < 4) : qr (aEnq S i l) l' p = rw1 (qr S) l (S 17 l) i l' p := by
  unfold aEnq
  show aTurn _ _ _ (11 + l'.toNat) p = _
  rw [aTurn_o _ _ _ (by omega) (by omega), mw_rn _ _ _ (by omega), mw_rn _ _ _ (by omega)]
  unfold rw1 mw
  by_cases e : l' = l
  · subst e
    simp
  · have e2 : ¬ (11 + l'.toNat = 11 + l.toNat) := by omega
    rw [if_neg (fun q => e2 q.1), if_neg (fun q => e q.1)]
theorem mwq {S : Mem} {r : Nat} {i v : Int} (h : r < 11 ∨ 15 ≤ r) (l p : Int) (h0 : 0 ≤ l) (h4 : l < 4) : qr (mw S r i v) l p = qr S l p := by
  show mw S r i v (11 + l.toNat) p = _
  rw [mw_rn _ _ _ (by omega)]
theorem aTurnq {S : Mem} {i s : Int} (l p : Int) (h0 : 0 ≤ l) (h4 : l < 4) : qr (aTurn S i s) l p = qr S l p := by
  show aTurn S i s (11 + l.toNat) p = _
  rw [aTurn_o _ _ _ (by omega) (by omega)]
theorem AI_up {S : Mem} {lo : Int → Int} {x l : Int} (h : AI S lo x) (hu : S 9 l = 1) : 0 ≤ l ∧ l < S 1 0 ∧ l < 4 := by
  obtain ⟨ha, hl, -⟩ := h
  rcases hl.2.1 l with q | q
  · omega
  · exact ⟨q.2.1, q.2.2, by have := ha.1.2; omega⟩
set_option maxHeartbeats 2000000 in
theorem AI_enqH {S : Mem} {lo : Int → Int} {x i l : Int} (h : AI S lo x) (h0 : 0 ≤ i) (h1 : i < S 4 0) (hs : S 34 i = 0) (hu : S 9 l = 1) : AI (aEnqH S i l) lo x := by
  obtain ⟨l0, lL, l4⟩ := AI_up h hu
  obtain ⟨ha, hl, hb, hn, hh, hf, ht, ks, kh, kf, kl, hq, hi, ho⟩ := h
  have hlk : S 35 i = -6 := by
    rcases hi i h0 h1 with q | q
    · exact q.1
    · omega
  have eo : ∀ r : Nat, r ≠ 22 → r ≠ 17 → r ≠ 34 → r ≠ 35 → r ≠ 41 → (r < 11 ∨ 15 ≤ r) → aEnqH S i l r = S r := fun r q1 q2 q3 q4 q5 q6 => by
    unfold aEnqH
    rw [mw_rn _ _ _ q1, aEnq_o _ _ _ q2 q3 q4 q5 (by omega)]
  have e17 : aEnqH S i l 17 = up1 (S 17) l (S 17 l + 1) := by unfold aEnqH; rw [mw_rn _ _ _ (by decide), aEnq_17 _ _ l4]
  have e34 : aEnqH S i l 34 = up1 (S 34) i 1 := by unfold aEnqH; rw [mw_rn _ _ _ (by decide), aEnq_34 _ _ l4]
  have e35 : aEnqH S i l 35 = up1 (S 35) i l := by unfold aEnqH; rw [mw_rn _ _ _ (by decide), aEnq_35 _ _ l4]
  have e41 : aEnqH S i l 41 = up1 (up1 (S 41) (S 34 i) (S 41 (S 34 i) - 1)) 1 (up1 (S 41) (S 34 i) (S 41 (S 34 i) - 1) 1 + 1) := by unfold aEnqH; rw [mw_rn _ _ _ (by decide), aEnq_41 _ _ l4]
  have e22 : aEnqH S i l 22 = up1 (S 22) (S 33 i) (S 22 (S 33 i) - 1) := by unfold aEnqH; rw [mw_rs, aEnq_o _ _ _ (by decide) (by decide) (by decide) (by decide) (by omega)]
  have eq : ∀ l' p, 0 ≤ l' → l' < 4 → qr (aEnqH S i l) l' p = rw1 (qr S) l (S 17 l) i l' p := fun l' p a b => by
    unfold aEnqH
    rw [mwq (by omega) _ _ a b, aEnq_qr S i l0 l4 _ _ a b]
  have hqe : 0 ≤ S 17 l := by have := (hq l l0 l4).1; omega
  unfold AI Ja
  simp only [eo, e17, e34, e35, e41, e22, ne_eq, not_false_eq_true, Nat.reduceEqDiff, Nat.reduceLT, Nat.reduceLeDiff, true_or, or_true, forall_const]
  refine ⟨ha, hl, hb, hn, Jh_turn hh (by decide), hf, Jt_turn ht (by decide), Ks_turn ks h0 h1, Kh_enq kh h0 h1 hs (by decide), Kf_turn kf h0 h1 (by omega) (by decide), Kl_enq kl h0 h1 hs hlk, Jq_rw (Jq_enq hq h0 h1 hlk (by omega)) eq, Ji_rw (Ji_enq hi ⟨l0, lL⟩ hqe) ha.1.2 eq, Jo_ins ho ?_⟩
  rw [turn_val, hs]
  simp
end
section
/-! The invariant through leaving, arriving, coming out. -/
set_option maxHeartbeats 2000000 in
theorem AI_leave1 {S : Mem} {lo : Int → Int} {x l : Int} (h : AI S lo x) (hu : S 9 l = 1) (hq1 : S 16 l < S 17 l) (hlo : lo l < S 5 0 + S 8 l) : AI (aLeave1 S l) lo x := by
  obtain ⟨l0, lL, l4⟩ := AI_up h hu
  obtain ⟨ha, hl, hb, hn, hh, hf, ht, ks, kh, kf, kl, hq, hi, ho⟩ := h
  obtain ⟨⟨q1, q2, q3⟩, q4, q5, q6, q7⟩ := hq l l0 l4
  obtain ⟨⟨i0, i1, i2⟩, -, -, i3⟩ := q4 (S 16 l) (by omega) hq1
  have hs := i3 (Int.le_refl _)
  have hdl := hl.2.2 l
  have eo : ∀ r : Nat, r ≠ 37 → r ≠ 38 → r ≠ 34 → r ≠ 41 → r ≠ 16 → r ≠ 18 → aLeave1 S l r = S r := fun r q1 q2 q3 q4 q5 q6 => by
    unfold aLeave1
    rw [mw_rn _ _ _ q6, mw_rn _ _ _ q5, aTurn_o _ _ _ q3 q4, mw_rn _ _ _ q2, mw_rn _ _ _ q1]
  have e34 : aLeave1 S l 34 = up1 (S 34) (qr S l (S 16 l)) 2 := by
    unfold aLeave1
    rw [mw_rn _ _ _ (by decide), mw_rn _ _ _ (by decide), aTurn_34, mw_rn _ _ _ (by decide), mw_rn _ _ _ (by decide)]
  have e38 : aLeave1 S l 38 = up1 (S 38) (qr S l (S 16 l)) (S 5 0 + S 8 l) := by
    unfold aLeave1
    rw [mw_rn _ _ _ (by decide), mw_rn _ _ _ (by decide), aTurn_o _ _ _ (by decide) (by decide), mw_rs, mw_rn _ _ _ (by decide)]
  have e41 : aLeave1 S l 41 = up1 (up1 (S 41) (S 34 (qr S l (S 16 l))) (S 41 (S 34 (qr S l (S 16 l))) - 1)) 2 (up1 (S 41) (S 34 (qr S l (S 16 l))) (S 41 (S 34 (qr S l (S 16 l))) - 1) 2 + 1) := by
    unfold aLeave1
    rw [mw_rn _ _ _ (by decide), mw_rn _ _ _ (by decide), aTurn_41]
    simp only [mw_rn _ _ _ (show (34 : Nat) ≠ 37 by decide), mw_rn _ _ _ (show (34 : Nat) ≠ 38 by decide), mw_rn _ _ _ (show (41 : Nat) ≠ 37 by decide), mw_rn _ _ _ (show (41 : Nat) ≠ 38 by decide)]
  have e16 : aLeave1 S l 16 = up1 (S 16) l (S 16 l + 1) := by
    unfold aLeave1
    rw [mw_rn _ _ _ (by decide), mw_rs, aTurn_o _ _ _ (by decide) (by decide), mw_rn _ _ _ (by decide), mw_rn _ _ _ (by decide)]
  have eq : ∀ l' p, 0 ≤ l' → l' < 4 → qr (aLeave1 S l) l' p = qr S l' p := fun l' p a b => by
    show aLeave1 S l (11 + l'.toNat) p = _
    rw [eo _ (by omega) (by omega) (by omega) (by omega) (by omega) (by omega)]
  unfold AI Ja
  simp only [eo, e34, e38, e41, e16, ne_eq, not_false_eq_true, Nat.reduceEqDiff, Nat.reduceLT, Nat.reduceLeDiff, true_or, or_true, forall_const]
  refine ⟨ha, hl, hb, hn, Jh_turn hh (by decide), hf, Jt_turn (Jt_ar ht (by have := ha.2.2.2.1; omega)) (by decide), Ks_turn ks i0 i1, Kh_turn kh i0 i1 (by omega) (by decide), Kf_turn kf i0 i1 (by omega) (by decide), Kl_leave kl i0 i1 hs i2, Jq_rw (Jq_leave hq l0 l4 hq1 hlo (by omega)) eq, Ji_rw (Ji_turn hi (by omega) (by decide)) ha.1.2 eq, Jo_ins ho ?_⟩
  rw [turn_val, hs]
  simp
theorem aNote_27 (S : Mem) (f p : Int) : aNote S f p 27 = up1 (S 27) f (S 27 f + 1) := by
  unfold aNote
  rw [mw_rn _ _ _ (by decide)]
  split
  · rw [mw_rn _ _ _ (by decide), mw_rs]
  · rw [mw_rs]
theorem aNote_29 (S : Mem) (f p : Int) : aNote S f p 29 = up1 (S 29) f p := by
  unfold aNote
  rw [mw_rs]
  split
  · rw [mw_rn _ _ _ (by decide), mw_rn _ _ _ (by decide)]
  · rw [mw_rn _ _ _ (by decide)]
theorem aNote_30 (S : Mem) (f p : Int) : aNote S f p 30 = if p < S 29 f then up1 (S 30) f 1 else S 30 := by
  unfold aNote
  rw [mw_rn _ _ _ (by decide), mw_rn _ _ _ (by decide)]
  split
  · rw [mw_rs, mw_rn _ _ _ (by decide)]
  · rw [mw_rn _ _ _ (by decide)]
theorem aNote_o (S : Mem) (f p : Int) {r : Nat} (h1 : r ≠ 27) (h2 : r ≠ 29) (h3 : r ≠ 30) : aNote S f p r = S r := by
  unfold aNote
  rw [mw_rn _ _ _ h2]
  split
  · rw [mw_rn _ _ _ h3, mw_rn _ _ _ h1]
  · rw [mw_rn _ _ _ h1]
theorem aLetOut_o (S : Mem) (i : Int) {r : Nat} (h1 : r ≠ 27) (h2 : r ≠ 29) (h3 : r ≠ 30) (h4 : r ≠ 39) (h5 : r ≠ 34) (h6 : r ≠ 41) (h7 : r ≠ 40) : aLetOut S i r = S r := by
  unfold aLetOut
  rw [aNote_o _ _ _ h1 h2 h3, mw_rn _ _ _ h4, aTurn_o _ _ _ h5 h6, mw_rn _ _ _ h7]
theorem aLetOut_34 (S : Mem) (i : Int) : aLetOut S i 34 = up1 (S 34) i 4 := by
  unfold aLetOut
  rw [aNote_o _ _ _ (by decide) (by decide) (by decide), mw_rn _ _ _ (by decide), aTurn_34, mw_rn _ _ _ (by decide)]
theorem aLetOut_41 (S : Mem) (i : Int) : aLetOut S i 41 = up1 (up1 (S 41) (S 34 i) (S 41 (S 34 i) - 1)) 4 (up1 (S 41) (S 34 i) (S 41 (S 34 i) - 1) 4 + 1) := by
  unfold aLetOut
  rw [aNote_o _ _ _ (by decide) (by decide) (by decide), mw_rn _ _ _ (by decide), aTurn_41]
  simp only [mw_rn _ _ _ (show (34 : Nat) ≠ 40 by decide), mw_rn _ _ _ (show (41 : Nat) ≠ 40 by decide)]
theorem aLetOut_40 (S : Mem) (i : Int) : aLetOut S i 40 = up1 (S 40) (S 41 4) i := by
  unfold aLetOut
  rw [aNote_o _ _ _ (by decide) (by decide) (by decide), mw_rn _ _ _ (by decide), aTurn_o _ _ _ (by decide) (by decide), mw_rs]
theorem aLetOut_39 (S : Mem) (i : Int) : aLetOut S i 39 = up1 (S 39) i (S 5 0) := by
  unfold aLetOut
  rw [aNote_o _ _ _ (by decide) (by decide) (by decide), mw_rs, aTurn_o _ _ _ (by decide) (by decide), mw_rn _ _ _ (by decide)]
theorem aLetOut_27 (S : Mem) (i : Int) : aLetOut S i 27 = up1 (S 27) (S 31 i) (S 27 (S 31 i) + 1) := by
  unfold aLetOut
  rw [aNote_27, mw_rn _ _ _ (by decide), aTurn_o _ _ _ (by decide) (by decide), mw_rn _ _ _ (by decide)]
theorem aLetOut_29 (S : Mem) (i : Int) : aLetOut S i 29 = up1 (S 29) (S 31 i) (S 32 i) := by
  unfold aLetOut
  rw [aNote_29, mw_rn _ _ _ (by decide), aTurn_o _ _ _ (by decide) (by decide), mw_rn _ _ _ (by decide)]
theorem aLetOut_30 (S : Mem) (i : Int) : aLetOut S i 30 = if S 32 i < S 29 (S 31 i) then up1 (S 30) (S 31 i) 1 else S 30 := by
  unfold aLetOut
  rw [aNote_30]
  simp only [mw_rn _ _ _ (show (29 : Nat) ≠ 39 by decide), aTurn_o _ _ _ (show (29 : Nat) ≠ 34 by decide) (show (29 : Nat) ≠ 41 by decide), mw_rn _ _ _ (show (29 : Nat) ≠ 40 by decide), mw_rn _ _ _ (show (30 : Nat) ≠ 39 by decide), aTurn_o _ _ _ (show (30 : Nat) ≠ 34 by decide) (show (30 : Nat) ≠ 41 by decide), mw_rn _ _ _ (show (30 : Nat) ≠ 40 by decide)]
theorem ins4 {S : Mem} {i : Int} (hs : S 34 i ≠ 4) : up1 (up1 (S 41) (S 34 i) (S 41 (S 34 i) - 1)) 4 (up1 (S 41) (S 34 i) (S 41 (S 34 i) - 1) 4 + 1) 4 = S 41 4 + 1 := by
  rw [turn_val, if_neg (Ne.symm hs), if_pos rfl]
  omega
/-- a waiting letter comes out -/
theorem AI_out {S : Mem} {lo : Int → Int} {x i : Int} (h : AI S lo x) (i0 : 0 ≤ i) (i1 : i < S 4 0) (hs : S 34 i = 3) : AI (aLetOut S i) lo x := by
  obtain ⟨ha, hl, hb, hn, hh, hf, ht, ks, kh, kf, kl, hq, hi, ho⟩ := h
  have eq : ∀ l' p, 0 ≤ l' → l' < 4 → qr (aLetOut S i) l' p = qr S l' p := fun l' p a b => by
    show aLetOut S i (11 + l'.toNat) p = _
    rw [aLetOut_o _ _ (by omega) (by omega) (by omega) (by omega) (by omega) (by omega) (by omega)]
  have h40 : 0 ≤ S 41 4 := by rw [ks 4 (by decide) (by decide)]; exact (ct_nn _ _).1
  have eo : ∀ r : Nat, r ≠ 27 → r ≠ 29 → r ≠ 30 → r ≠ 39 → r ≠ 34 → r ≠ 41 → r ≠ 40 → aLetOut S i r = S r := fun r a b c d e f g => aLetOut_o S i a b c d e f g
  unfold AI Ja
  simp only [eo, aLetOut_34, aLetOut_41, aLetOut_40, aLetOut_27, aLetOut_29, aLetOut_30, ne_eq, not_false_eq_true, Nat.reduceEqDiff, Nat.reduceLT, Nat.reduceLeDiff, true_or, or_true, forall_const]
  exact ⟨ha, hl, hb, hn, Jh_turn hh (by decide), hf, Jt_turn ht (by decide), Ks_turn ks i0 i1, Kh_turn kh i0 i1 (by omega) (by decide), Kf_out kf i0 i1 (by omega), Kl_turn kl i0 i1 (by omega) (by decide), Jq_rw (Jq_out hq (by omega) (by decide)) eq, Ji_rw (Ji_turn hi (by omega) (by decide)) ha.1.2 eq, Jo_out ho ⟨i0, i1⟩ h40 (ins4 (by omega)) (ht i).2.1 ((ht i).1.2.2 i0 i1)⟩
set_option maxHeartbeats 2000000 in
theorem AI_arr1 {S : Mem} {lo : Int → Int} {x l : Int} (h : AI S lo x) (l0 : 0 ≤ l) (l4 : l < 4) (hq1 : S 15 l < S 16 l) : AI (aArr1 S l) lo x := by
  obtain ⟨ha, hl, hb, hn, hh, hf, ht, ks, kh, kf, kl, hq, hi, ho⟩ := h
  obtain ⟨⟨q1, q2, q3⟩, q4, q5, q6, q7⟩ := hq l l0 l4
  obtain ⟨⟨i0, i1, i2⟩, -, i3, -⟩ := q4 (S 15 l) (by omega) (by omega)
  have hs := (i3 (Int.le_refl _) hq1).1
  have h40 : 0 ≤ S 41 4 := by rw [ks 4 (by decide) (by decide)]; exact (ct_nn _ _).1
  unfold aArr1
  split
  · have eo : ∀ r : Nat, r ≠ 27 → r ≠ 29 → r ≠ 30 → r ≠ 39 → r ≠ 34 → r ≠ 41 → r ≠ 40 → aLetOut S (qr S l (S 15 l)) r = S r := fun r a b c d e f g => aLetOut_o S _ a b c d e f g
    have eq : ∀ l' p, 0 ≤ l' → l' < 4 → qr (mw (aLetOut S (qr S l (S 15 l))) 15 l (S 15 l + 1)) l' p = qr S l' p := fun l' p a b => by
      rw [mwq (by omega) _ _ a b]
      show aLetOut S _ (11 + l'.toNat) p = _
      rw [aLetOut_o _ _ (by omega) (by omega) (by omega) (by omega) (by omega) (by omega) (by omega)]
    unfold AI Ja
    simp only [mw_rs, mw_rn, eo, aLetOut_34, aLetOut_41, aLetOut_40, aLetOut_27, aLetOut_29, aLetOut_30, ne_eq, not_false_eq_true, Nat.reduceEqDiff, Nat.reduceLT, Nat.reduceLeDiff, true_or, or_true, forall_const]
    exact ⟨ha, hl, hb, hn, Jh_turn hh (by decide), hf, Jt_turn ht (by decide), Ks_turn ks i0 i1, Kh_turn kh i0 i1 (by omega) (by decide), Kf_out kf i0 i1 (by omega), Kl_arr kl i0 i1 hs (by decide) i2, Jq_rw (Jq_arr hq l0 l4 hq1 (by decide)) eq, Ji_rw (Ji_turn hi (by omega) (by decide)) ha.1.2 eq, Jo_out ho ⟨i0, i1⟩ h40 (ins4 (by omega)) (ht _).2.1 ((ht _).1.2.2 i0 i1)⟩
  · have eo : ∀ r : Nat, r ≠ 34 → r ≠ 41 → aTurn S (qr S l (S 15 l)) 3 r = S r := fun r a b => aTurn_o S _ _ a b
    have eq : ∀ l' p, 0 ≤ l' → l' < 4 → qr (mw (aTurn S (qr S l (S 15 l)) 3) 15 l (S 15 l + 1)) l' p = qr S l' p := fun l' p a b => by
      rw [mwq (by omega) _ _ a b, aTurnq _ _ a b]
    unfold AI Ja
    simp only [mw_rs, mw_rn, eo, aTurn_34, aTurn_41, ne_eq, not_false_eq_true, Nat.reduceEqDiff, Nat.reduceLT, Nat.reduceLeDiff, true_or, or_true, forall_const]
    refine ⟨ha, hl, hb, hn, Jh_turn hh (by decide), hf, Jt_turn ht (by decide), Ks_turn ks i0 i1, Kh_turn kh i0 i1 (by omega) (by decide), Kf_turn kf i0 i1 (by omega) (by decide), Kl_arr kl i0 i1 hs (by decide) i2, Jq_rw (Jq_arr hq l0 l4 hq1 (by decide)) eq, Ji_rw (Ji_turn hi (by omega) (by decide)) ha.1.2 eq, Jo_ins ho ?_⟩
    rw [turn_val, hs]
    simp
end
section
/-! The class's small methods. -/
section GC2
variable {mt mt' : Mt} {d : Nat} {P P' : PV → Mem → Prop} {pc nx tg ix n : Nat} {lv st as rest : List PV} {M : Mem}
theorem gV_cV {r ci : Nat} {fs : List (Option Nat)} {T : u_T} {N : Nat} (hok : gOk mt' d (vR r :: as) M P') (hm : mtOk mt') (hs : siteV mt.1.cls ix mt'.1 n) (hl : lk pc mt.2.2.2.2.2 = some (nx, tg, .invokevirtual ix)) (hn : as.length = n) (hst : st = as.reverse ++ vR r :: rest) (hr : shp r = some (.inl (ci, fs))) (hc : vwCl[ci]? = some (mt'.1.cls, T, N)) (hz : (noL rest && Nat.ble rest.length 8) = true)
    (kk : ∀ (r : PV) (M : Mem), P' r M → gV mt (d + 1) P nx lv (rp r rest) M) : gV mt (d + 1) P pc lv st M := gV_callV hl hm hs hn hst hr hc hz hok kk
theorem gV_cS (hok : gOk mt' d as M P') (hm : mtOk mt') (hs : siteS mt.1.cls ix mt'.1 n) (hl : lk pc mt.2.2.2.2.2 = some (nx, tg, .invokestatic ix)) (hn : as.length = n) (hst : st = as.reverse ++ rest) (hz : (noL rest && Nat.ble rest.length 8) = true)
    (kk : ∀ (r : PV) (M : Mem), P' r M → gV mt (d + 1) P nx lv (rp r rest) M) : gV mt (d + 1) P pc lv st M := gV_callS hl hm hs hn hst hz hok kk
end GC2
/-- an answer of yes or no -/
def yn (c : Prop) (M : Mem) : PV → Mem → Prop := fun r M' => M' = M ∧ ((c ∧ r = vI 1) ∨ (¬ c ∧ r = vI 0))
theorem ok_isWithin {d : Nat} {M : Mem} {x lo hi : Int} (hx : rng x) (hl : rng lo) (hh : rng hi) : gOk mX6_isWithin d [vI x, vI lo, vI hi] M (yn (lo ≤ x ∧ x ≤ hi) M) := by
  refine gOk_of mX6_isWithin_ok (by simp) (Nat.le_of_ble_eq_true rfl) ?_
  repeat (refine gV_s rfl (by first | exact trivial | omega) ?_)
  refine gV_i rfl ⟨hx, hl⟩ (fun h1 => ?_) (fun h1 => ?_)
  · repeat (refine gV_s rfl (by first | exact trivial | omega) ?_)
    exact gV_ret rfl (Or.inl rfl) ⟨rfl, Or.inr ⟨by omega, rfl⟩⟩
  · repeat (refine gV_s rfl (by first | exact trivial | omega) ?_)
    refine gV_i rfl ⟨hx, hh⟩ (fun h2 => ?_) (fun h2 => ?_)
    · repeat (refine gV_s rfl (by first | exact trivial | omega) ?_)
      exact gV_ret rfl (Or.inl rfl) ⟨rfl, Or.inr ⟨by omega, rfl⟩⟩
    · repeat (refine gV_s rfl (by first | exact trivial | omega) ?_)
      exact gV_ret rfl (Or.inr rfl) ⟨rfl, Or.inl ⟨by omega, rfl⟩⟩
theorem ok_isBelow {d : Nat} {M : Mem} {x n : Int} (hx : rng x) (hn : rng n) : gOk mX6_isBelow d [vI x, vI n] M (yn (0 ≤ x ∧ x < n) M) := by
  refine gOk_of mX6_isBelow_ok (by simp) (Nat.le_of_ble_eq_true rfl) ?_
  repeat (refine gV_s rfl (by first | exact trivial | omega) ?_)
  refine gV_i rfl hx (fun h1 => ?_) (fun h1 => ?_)
  · repeat (refine gV_s rfl (by first | exact trivial | omega) ?_)
    exact gV_ret rfl (Or.inl rfl) ⟨rfl, Or.inr ⟨by omega, rfl⟩⟩
  · repeat (refine gV_s rfl (by first | exact trivial | omega) ?_)
    refine gV_i rfl ⟨hx, hn⟩ (fun h2 => ?_) (fun h2 => ?_)
    · repeat (refine gV_s rfl (by first | exact trivial | omega) ?_)
      exact gV_ret rfl (Or.inl rfl) ⟨rfl, Or.inr ⟨by omega, rfl⟩⟩
    · repeat (refine gV_s rfl (by first | exact trivial | omega) ?_)
      exact gV_ret rfl (Or.inr rfl) ⟨rfl, Or.inl ⟨by omega, rfl⟩⟩
theorem ok_oneIf {d : Nat} {M : Mem} {x : Int} {P : PV → Mem → Prop} (hx : x = 0 ∨ x = 1) (hP : P (vI x) M) : gOk mX6_oneIf d [vI x] M P := by
  refine gOk_of mX6_oneIf_ok (by simp) (Nat.le_of_ble_eq_true rfl) ?_
  repeat (refine gV_s rfl (by first | exact trivial | omega) ?_)
  refine gV_i rfl (by unfold rng; omega) (fun h1 => ?_) (fun h1 => ?_)
  · repeat (refine gV_s rfl (by first | exact trivial | omega) ?_)
    subst h1
    exact gV_ret rfl trivial hP
  · repeat (refine gV_s rfl (by first | exact trivial | omega) ?_)
    have : x = 1 := by omega
    subst this
    exact gV_ret rfl trivial hP
theorem ok_isUnsettled {d : Nat} {M : Mem} {b : Int} (h0 : 0 ≤ b) (h1 : b < 8) (ht : rng (M 20 b)) (hh : rng (M 21 b)) : gOk mX0_isUnsettled d [vR 2, vI b] M (yn (M 20 b ≠ -6 ∨ M 21 b ≠ 0) M) := by
  refine gOk_of mX0_isUnsettled_ok (by simp) (Nat.le_of_ble_eq_true rfl) ?_
  repeat (refine gV_s rfl (by first | exact trivial | omega) ?_)
  refine gV_i rfl ⟨ht, by unfold rng; omega⟩ (fun h2 => ?_) (fun h2 => ?_)
  · repeat (refine gV_s rfl (by first | exact trivial | omega) ?_)
    refine gV_i rfl hh (fun h3 => ?_) (fun h3 => ?_)
    · repeat (refine gV_s rfl (by first | exact trivial | omega) ?_)
      exact gV_ret rfl (Or.inl rfl) ⟨rfl, Or.inr ⟨by omega, rfl⟩⟩
    · repeat (refine gV_s rfl (by first | exact trivial | omega) ?_)
      exact gV_ret rfl (Or.inr rfl) ⟨rfl, Or.inl ⟨by omega, rfl⟩⟩
  · repeat (refine gV_s rfl (by first | exact trivial | omega) ?_)
    exact gV_ret rfl (Or.inr rfl) ⟨rfl, Or.inl ⟨by omega, rfl⟩⟩
theorem anyUns_loop {d : Nat} {M : Mem} (ht : ∀ b, rng (M 20 b)) (hh : ∀ b, rng (M 21 b)) : ∀ (n b : Nat), b + n = 8 → (∀ j : Int, 0 ≤ j → j < b → M 20 j = -6 ∧ M 21 j = 0) →
    gV mX0_isAnyUnsettled (d + 1) (yn (∃ j : Int, 0 ≤ j ∧ j < 8 ∧ (M 20 j ≠ -6 ∨ M 21 j ≠ 0)) M) 5 [vR 2, vI b] [vI 8, vI b] M
  | 0, b, h, hj => by
    have hb : b = 8 := by omega
    subst hb
    refine gV_it rfl (by unfold rng; omega) (show (8 : Int) ≤ _ by omega) ?_
    repeat (refine gV_s rfl (by first | exact trivial | omega) ?_)
    exact gV_ret rfl (Or.inl rfl) ⟨rfl, Or.inr ⟨fun ⟨j, j0, j1, j2⟩ => by have := hj j j0 j1; omega, rfl⟩⟩
  | n + 1, b, h, hj => by
    have ih := anyUns_loop (d := d) ht hh n (b + 1) (by omega)
    refine gV_in rfl (by unfold rng; omega) (show ¬ (8 : Int) ≤ _ by omega) ?_
    repeat (refine gV_s rfl (by first | exact trivial | omega) ?_)
    refine gV_cV (ok_isUnsettled (b := b) (by omega) (by omega) (ht b) (hh b)) mX0_isUnsettled_ok sX0_X0_isUnsettled rfl rfl rfl rfl rfl rfl ?_
    rintro r M' ⟨rfl, ⟨h2, rfl⟩ | ⟨h2, rfl⟩⟩
    · refine gV_in rfl (by unfold rng; omega) (by omega) ?_
      repeat (refine gV_s rfl (by first | exact trivial | omega) ?_)
      exact gV_ret rfl (Or.inr rfl) ⟨rfl, Or.inl ⟨⟨b, by omega, by omega, h2⟩, rfl⟩⟩
    · refine gV_it rfl (by unfold rng; omega) rfl ?_
      repeat (refine gV_s rfl (by first | exact trivial | omega) ?_)
      refine ih (fun j j0 j1 => ?_)
      by_cases e : j = b
      · subst e; omega
      · exact hj j j0 (by omega)
theorem ok_anyUns {d : Nat} {M : Mem} (ht : ∀ b, rng (M 20 b)) (hh : ∀ b, rng (M 21 b)) : gOk mX0_isAnyUnsettled (d + 1) [vR 2] M (yn (∃ j : Int, 0 ≤ j ∧ j < 8 ∧ (M 20 j ≠ -6 ∨ M 21 j ≠ 0)) M) := by
  refine gOk_of mX0_isAnyUnsettled_ok (by simp) (Nat.le_of_ble_eq_true rfl) ?_
  repeat (refine gV_s rfl (by first | exact trivial | omega) ?_)
  exact anyUns_loop ht hh 8 0 rfl (fun j a b => by omega)
def aFlow (M : Mem) (r : Int) : Mem := mw (mw (mw (mw M 24 (M 3 0) r) 25 (M 3 0) (-1)) 29 (M 3 0) (-6)) 3 0 (M 3 0 + 1)
theorem ok_flowAdd {d : Nat} {M : Mem} {r : Int} {P : PV → Mem → Prop} (h0 : 0 ≤ M 3 0) (h1 : M 3 0 < 16) (hP : P (vI (M 3 0)) (aFlow M r)) : gOk mX1_add d [vR 3, vI r] M P := by
  refine gOk_of mX1_add_ok (by simp) (Nat.le_of_ble_eq_true rfl) ?_
  repeat (refine gV_s rfl (by first | exact trivial | omega) ?_)
  exact gV_ret rfl trivial hP
/-- the bucket of a flow -/
def bkO (M : Mem) (f : Int) : Int := if M 25 f = -1 then (f * M 3 1 + M 3 2) % 8 else M 25 f
theorem fa_bd {f a : Int} (h0 : 0 ≤ f) (h1 : f < 16) (a0 : 0 ≤ a) (a1 : a ≤ 7) : 0 ≤ f * a ∧ f * a ≤ 105 := by
  refine ⟨Int.mul_nonneg h0 a0, ?_⟩
  have h2 : f * a ≤ 15 * a := Int.mul_le_mul_of_nonneg_right (by omega) a0
  omega
theorem ok_bucketOf {d : Nat} {M : Mem} {f : Int} {P : PV → Mem → Prop} (h0 : 0 ≤ f) (h1 : f < 16) (ha : 0 ≤ M 3 1 ∧ M 3 1 ≤ 7) (hc : 0 ≤ M 3 2 ∧ M 3 2 ≤ 7) (hp : rng (M 25 f)) (hP : P (vI (bkO M f)) M) : gOk mX1_bucketOf d [vR 3, vI f] M P := by
  refine gOk_of mX1_bucketOf_ok (by simp) (Nat.le_of_ble_eq_true rfl) ?_
  have hb := fa_bd h0 h1 ha.1 ha.2
  unfold bkO at hP
  repeat (refine gV_s rfl (by first | exact trivial | omega) ?_)
  refine gV_i rfl ⟨hp, by unfold rng; omega⟩ (fun h2 => ?_) (fun h2 => ?_)
  · repeat (refine gV_s rfl (by first | exact trivial | omega) ?_)
    rw [if_pos h2] at hP
    exact gV_ret rfl trivial hP
  · repeat (refine gV_s rfl (by first | exact trivial | omega) ?_)
    rw [if_neg h2] at hP
    exact gV_ret rfl trivial hP
theorem ok_fUnended {d : Nat} {M : Mem} {f : Int} (h0 : 0 ≤ f) (h1 : f < 16) (hr : rng (M 27 f + M 28 f)) (hs : rng (M 26 f)) : gOk mX1_hasUnended d [vR 3, vI f] M (yn (M 27 f + M 28 f < M 26 f) M) := by
  refine gOk_of mX1_hasUnended_ok (by simp) (Nat.le_of_ble_eq_true rfl) ?_
  repeat (refine gV_s rfl (by first | exact trivial | omega) ?_)
  refine gV_i rfl ⟨hr, hs⟩ (fun h2 => ?_) (fun h2 => ?_)
  · repeat (refine gV_s rfl (by first | exact trivial | omega) ?_)
    exact gV_ret rfl (Or.inl rfl) ⟨rfl, Or.inr ⟨by omega, rfl⟩⟩
  · repeat (refine gV_s rfl (by first | exact trivial | omega) ?_)
    exact gV_ret rfl (Or.inr rfl) ⟨rfl, Or.inl ⟨by omega, rfl⟩⟩
theorem ok_noteOut {d : Nat} {M : Mem} {f p : Int} {P : PV → Mem → Prop} (h0 : 0 ≤ f) (h1 : f < 16) (hp : rng p) (hl : rng (M 29 f)) (hP : P none (aNote M f p)) : gOk mX1_noteOut d [vR 3, vI f, vI p] M P := by
  refine gOk_of mX1_noteOut_ok (by simp) (Nat.le_of_ble_eq_true rfl) ?_
  have e : mw M 27 f (M 27 f + 1) 29 = M 29 := mw_rn _ _ _ (by decide)
  unfold aNote at hP
  simp only [e] at hP
  repeat (refine gV_s rfl (by first | exact trivial | omega) ?_)
  refine gV_i rfl ⟨hp, by rw [e]; exact hl⟩ (fun h2 => ?_) (fun h2 => ?_)
  · rw [e] at h2
    rw [if_neg (by omega)] at hP
    repeat (refine gV_s rfl (by first | exact trivial | omega) ?_)
    exact gV_retv rfl trivial hP
  · rw [e] at h2
    rw [if_pos (by omega)] at hP
    repeat (refine gV_s rfl (by first | exact trivial | omega) ?_)
    exact gV_retv rfl trivial hP
theorem ok_turn {d : Nat} {M : Mem} {i s : Int} {P : PV → Mem → Prop} (h0 : 0 ≤ i) (h1 : i < 400) (hs : 0 ≤ s ∧ s < 6) (hst : 0 ≤ M 34 i ∧ M 34 i ≤ 5) (hP : P none (aTurn M i s)) : gOk mX2_turn d [vR 4, vI i, vI s] M P := by
  refine gOk_of mX2_turn_ok (by simp) (Nat.le_of_ble_eq_true rfl) ?_
  repeat (refine gV_s rfl (by first | exact trivial | omega) ?_)
  exact gV_retv rfl trivial hP
theorem ok_lUnended {d : Nat} {M : Mem} (hr : rng (M 41 4 + M 41 5)) (hs : rng (M 4 0)) : gOk mX2_hasUnended d [vR 4] M (yn (M 41 4 + M 41 5 < M 4 0) M) := by
  refine gOk_of mX2_hasUnended_ok (by simp) (Nat.le_of_ble_eq_true rfl) ?_
  repeat (refine gV_s rfl (by first | exact trivial | omega) ?_)
  refine gV_i rfl ⟨hr, hs⟩ (fun h2 => ?_) (fun h2 => ?_)
  · repeat (refine gV_s rfl (by first | exact trivial | omega) ?_)
    exact gV_ret rfl (Or.inl rfl) ⟨rfl, Or.inr ⟨by omega, rfl⟩⟩
  · repeat (refine gV_s rfl (by first | exact trivial | omega) ?_)
    exact gV_ret rfl (Or.inr rfl) ⟨rfl, Or.inl ⟨by omega, rfl⟩⟩
theorem ok_underway {d : Nat} {M : Mem} (hr : rng (M 41 1 + M 41 2 + M 41 3)) : gOk mX2_isAnyUnderway d [vR 4] M (yn (0 < M 41 1 + M 41 2 + M 41 3) M) := by
  refine gOk_of mX2_isAnyUnderway_ok (by simp) (Nat.le_of_ble_eq_true rfl) ?_
  repeat (refine gV_s rfl (by first | exact trivial | omega) ?_)
  refine gV_i rfl hr (fun h2 => ?_) (fun h2 => ?_)
  · repeat (refine gV_s rfl (by first | exact trivial | omega) ?_)
    exact gV_ret rfl (Or.inl rfl) ⟨rfl, Or.inr ⟨by omega, rfl⟩⟩
  · repeat (refine gV_s rfl (by first | exact trivial | omega) ?_)
    exact gV_ret rfl (Or.inr rfl) ⟨rfl, Or.inl ⟨by omega, rfl⟩⟩
/-- a new letter, held by nobody yet -/
def aAdd (M : Mem) (f p b t : Int) : Mem :=
  let n := M 4 0
  let M1 := mw (mw (mw (mw (mw (mw (mw (mw (mw M 31 n f) 32 n p) 33 n b) 34 n 0) 35 n (-6)) 36 n t) 37 n (-6)) 38 n (-6)) 39 n (-6)
  mw (mw M1 41 0 (M1 41 0 + 1)) 4 0 (M 4 0 + 1)
theorem ok_letterAdd {d : Nat} {M : Mem} {f p b t : Int} {P : PV → Mem → Prop} (h0 : 0 ≤ M 4 0) (h1 : M 4 0 < 400) (hP : P (vI (M 4 0)) (aAdd M f p b t)) : gOk mX2_add d [vR 4, vI f, vI p, vI b, vI t] M P := by
  refine gOk_of mX2_add_ok (by simp) (Nat.le_of_ble_eq_true rfl) ?_
  repeat (refine gV_s rfl (by first | exact trivial | omega) ?_)
  exact gV_ret rfl trivial hP
def aLink0 (M : Mem) (s dl : Int) : Mem := mw (mw (mw (mw M 7 (M 1 0) s) 8 (M 1 0) dl) 9 (M 1 0) 1) 1 0 (M 1 0 + 1)
theorem ok_linkAdd {d : Nat} {M : Mem} {s dl : Int} {P : PV → Mem → Prop} (h0 : 0 ≤ M 1 0) (h1 : M 1 0 < 4) (hP : P (vI (M 1 0)) (aLink0 M s dl)) : gOk mX3_add d [vR 1, vI s, vI dl] M P := by
  refine gOk_of mX3_add_ok (by simp) (Nat.le_of_ble_eq_true rfl) ?_
  repeat (refine gV_s rfl (by first | exact trivial | omega) ?_)
  exact gV_ret rfl trivial hP
end
section
/-! Larger steps: what leaves, arrives, comes out; held letters let go; buckets settled. -/
theorem mw_comm (S : Mem) {r r' : Nat} (i v i' v' : Int) (h : r ≠ r') : mw (mw S r i v) r' i' v' = mw (mw S r' i' v') r i v := by
  funext a b
  simp only [mw]
  by_cases h1 : a = r
  · subst h1
    simp [h]
  · simp [h1]
def Ex (X : List Nat) (M S : Mem) : Prop := ∀ r, r ∉ X → M r = S r
theorem Ex.rf {X : List Nat} {M : Mem} : Ex X M M := fun _ _ => rfl
theorem Ex.w {X : List Nat} {M S : Mem} (h : Ex X M S) {r : Nat} {i v i' v' : Int} (hi : i = i') (hv : v = v') : Ex X (mw M r i v) (mw S r i' v') := by
  subst hi; subst hv
  intro q hq
  by_cases e : q = r
  · subst e
    rw [mw_rs, mw_rs, h q hq]
  · rw [mw_rn _ _ _ e, mw_rn _ _ _ e, h q hq]
theorem Ex.skip {X : List Nat} {M S : Mem} (h : Ex X M S) {r : Nat} {i v : Int} (hr : r ∈ X) : Ex X M (mw S r i v) := by
  intro q hq
  rw [mw_rn _ _ _ (fun e => hq (by rw [e]; exact hr)), h q hq]
theorem Ex.skip1 {X : List Nat} {M S : Mem} (h : Ex X M S) {r : Nat} {i v : Int} (hr : r ∈ X) : Ex X (mw M r i v) S := by
  intro q hq
  rw [mw_rn _ _ _ (fun e => hq (by rw [e]; exact hr)), h q hq]
theorem Ex.turn {X : List Nat} {M S : Mem} (h : Ex X M S) (h34 : 34 ∉ X) (h41 : 41 ∉ X) {i i' s : Int} (hi : i = i') : Ex X (aTurn M i s) (aTurn S i' s) := by
  subst hi
  have e1 : M 34 = S 34 := h 34 h34
  have e2 : M 41 = S 41 := h 41 h41
  intro q hq
  by_cases a : q = 34
  · subst a; rw [aTurn_34, aTurn_34, e1]
  · by_cases b : q = 41
    · subst b; rw [aTurn_41, aTurn_41, e1, e2]
    · rw [aTurn_o _ _ _ a b, aTurn_o _ _ _ a b, h q hq]
theorem Ex.note {X : List Nat} {M S : Mem} (h : Ex X M S) (h27 : 27 ∉ X) (h29 : 29 ∉ X) (h30 : 30 ∉ X) {f p : Int} : Ex X (aNote M f p) (aNote S f p) := by
  intro q hq
  by_cases a : q = 27
  · subst a; rw [aNote_27, aNote_27, h 27 h27]
  · by_cases b : q = 29
    · subst b; rw [aNote_29, aNote_29, h 29 h29]
    · by_cases c : q = 30
      · subst c; rw [aNote_30, aNote_30, h 29 h29, h 30 h30]
      · rw [aNote_o _ _ _ a b c, aNote_o _ _ _ a b c, h q hq]
theorem Ex.out {X : List Nat} {M S : Mem} (h : Ex X M S) (hX : ∀ r ∈ X, r ≤ 23 ∧ r ≠ 5) {i i' : Int} (hi : i = i') : Ex X (aLetOut M i) (aLetOut S i') := by
  subst hi
  have k : ∀ r, ¬ r ≤ 23 ∨ r = 5 → r ∉ X := fun r hr hq => by have := hX r hq; omega
  unfold aLetOut
  rw [h 31 (k _ (by omega)), h 32 (k _ (by omega))]
  exact Ex.note (Ex.w (Ex.turn (Ex.w h (by rw [h 41 (k _ (by omega))]) rfl) (k _ (by omega)) (k _ (by omega)) rfl) rfl (by rw [h 5 (k _ (by omega))])) (k _ (by omega)) (k _ (by omega)) (k _ (by omega))
theorem Ex.all {M S : Mem} (h : Ex [] M S) : M = S := mem_ext (fun r => h r (by simp))
/-! leaving -/
def aLvK (S : Mem) (l : Int) : Nat → Mem
  | 0 => S
  | k + 1 => aLeave1 (aLvK S l k) l
theorem aLeave1_o (S : Mem) (l : Int) {r : Nat} (q1 : r ≠ 37) (q2 : r ≠ 38) (q3 : r ≠ 34) (q4 : r ≠ 41) (q5 : r ≠ 16) (q6 : r ≠ 18) : aLeave1 S l r = S r := by
  unfold aLeave1
  rw [mw_rn _ _ _ q6, mw_rn _ _ _ q5, aTurn_o _ _ _ q3 q4, mw_rn _ _ _ q2, mw_rn _ _ _ q1]
theorem aLeave1_16 (S : Mem) (l : Int) : aLeave1 S l 16 = up1 (S 16) l (S 16 l + 1) := by
  unfold aLeave1
  rw [mw_rn _ _ _ (by decide), mw_rs, aTurn_o _ _ _ (by decide) (by decide), mw_rn _ _ _ (by decide), mw_rn _ _ _ (by decide)]
theorem aLeave1_18 (S : Mem) (l : Int) : aLeave1 S l 18 = up1 (S 18) l (S 18 l + 1) := by
  unfold aLeave1
  rw [mw_rs, mw_rn _ _ _ (by decide), aTurn_o _ _ _ (by decide) (by decide), mw_rn _ _ _ (by decide), mw_rn _ _ _ (by decide)]
theorem aLvK_o (S : Mem) (l : Int) {r : Nat} (q1 : r ≠ 37) (q2 : r ≠ 38) (q3 : r ≠ 34) (q4 : r ≠ 41) (q5 : r ≠ 16) (q6 : r ≠ 18) : ∀ k, aLvK S l k r = S r
  | 0 => rfl
  | k + 1 => by rw [aLvK, aLeave1_o _ _ q1 q2 q3 q4 q5 q6, aLvK_o S l q1 q2 q3 q4 q5 q6 k]
theorem aLvK_16 (S : Mem) (l : Int) : ∀ k : Nat, aLvK S l k 16 = up1 (S 16) l (S 16 l + k)
  | 0 => by simp only [aLvK]; rw [show S 16 l + ((0 : Nat) : Int) = S 16 l by omega, up1_id]
  | k + 1 => by
    rw [aLvK, aLeave1_16, aLvK_16 S l k, up1_up1, up1_s]
    congr 1
    push_cast
    omega
theorem aLvK_18 (S : Mem) (l : Int) : ∀ k : Nat, aLvK S l k 18 = up1 (S 18) l (S 18 l + k)
  | 0 => by simp only [aLvK]; rw [show S 18 l + ((0 : Nat) : Int) = S 18 l by omega, up1_id]
  | k + 1 => by
    rw [aLvK, aLeave1_18, aLvK_18 S l k, up1_up1, up1_s]
    congr 1
    push_cast
    omega
theorem AI_lvK {S : Mem} {lo : Int → Int} {x l : Int} (h : AI S lo x) (hu : S 9 l = 1) (hlo : lo l < S 5 0 + S 8 l) : ∀ k : Nat, (k : Int) ≤ S 17 l - S 16 l → AI (aLvK S l k) lo x
  | 0, _ => h
  | k + 1, hk => by
    refine AI_leave1 (AI_lvK h hu hlo k (by omega)) ?_ ?_ ?_
    · rw [aLvK_o S l (by decide) (by decide) (by decide) (by decide) (by decide) (by decide)]; exact hu
    · rw [aLvK_16, up1_s, aLvK_o S l (by decide) (by decide) (by decide) (by decide) (by decide) (by decide)]; omega
    · rw [aLvK_o S l (by decide) (by decide) (by decide) (by decide) (by decide) (by decide), aLvK_o S l (by decide) (by decide) (by decide) (by decide) (by decide) (by decide)]; exact hlo
def lvN (S : Mem) (l : Int) : Nat := (if S 17 l < S 16 l + S 7 l then S 17 l - S 16 l else S 7 l).toNat
def aLv (S : Mem) (l : Int) : Mem := if S 9 l = 0 then S else aLvK S l (lvN S l)
def aLvs (S : Mem) : Nat → Mem
  | 0 => S
  | k + 1 => aLv (aLvs S k) k
theorem aLv_o (S : Mem) (l : Int) {r : Nat} (q1 : r ≠ 37) (q2 : r ≠ 38) (q3 : r ≠ 34) (q4 : r ≠ 41) (q5 : r ≠ 16) (q6 : r ≠ 18) : aLv S l r = S r := by
  unfold aLv
  split
  · rfl
  · exact aLvK_o S l q1 q2 q3 q4 q5 q6 _
theorem aLvs_o (S : Mem) {r : Nat} (q1 : r ≠ 37) (q2 : r ≠ 38) (q3 : r ≠ 34) (q4 : r ≠ 41) (q5 : r ≠ 16) (q6 : r ≠ 18) : ∀ k, aLvs S k r = S r
  | 0 => rfl
  | k + 1 => by rw [aLvs, aLv_o _ _ q1 q2 q3 q4 q5 q6, aLvs_o S q1 q2 q3 q4 q5 q6 k]
theorem lvN_le {S : Mem} {lo : Int → Int} {x l : Int} (h : AI S lo x) (l0 : 0 ≤ l) (l4 : l < 4) : ((lvN S l : Nat) : Int) ≤ S 17 l - S 16 l := by
  obtain ⟨ha, hl, hb, hn, hh, hf, ht, ks, kh, kf, kl, hq, hi, ho⟩ := h
  have h1 := (hq l l0 l4).1
  have h2 := hl.2.2 l
  unfold lvN
  split <;> omega
theorem AI_lv {S : Mem} {lo : Int → Int} {x l : Int} (h : AI S lo x) (hlo : lo l < S 5 0) : AI (aLv S l) lo x := by
  unfold aLv
  split
  · exact h
  · rename_i hu
    have hu : S 9 l = 1 := by
      rcases h.2.1.2.1 l with q | q
      · exact absurd q hu
      · exact q.1
    obtain ⟨l0, lL, l4⟩ := AI_up h hu
    have := h.2.1.2.2 l
    exact AI_lvK h hu (by omega) _ (lvN_le h l0 l4)
theorem AI_lvs {S : Mem} {lo : Int → Int} {x : Int} (h : AI S lo x) (hlo : ∀ l, lo l < S 5 0) : ∀ k, AI (aLvs S k) lo x
  | 0 => h
  | k + 1 => AI_lv (AI_lvs h hlo k) (by rw [aLvs_o S (by decide) (by decide) (by decide) (by decide) (by decide) (by decide)]; exact hlo _)
/-! arriving -/
def aArF (l : Int) : Nat → Mem → Mem
  | 0, S => S
  | k + 1, S => if S 15 l < S 16 l ∧ S 38 (qr S l (S 15 l)) = S 5 0 then aArF l k (aArr1 S l) else S
def aAr (S : Mem) (l : Int) : Mem := aArF l (S 16 l - S 15 l).toNat S
def aArs (S : Mem) : Nat → Mem
  | 0 => S
  | k + 1 => aAr (aArs S k) k
theorem aArr1_15 (S : Mem) (l : Int) : aArr1 S l 15 = up1 (S 15) l (S 15 l + 1) := by
  unfold aArr1
  rw [mw_rs]
  split
  · rw [aLetOut_o _ _ (by decide) (by decide) (by decide) (by decide) (by decide) (by decide) (by decide)]
  · rw [aTurn_o _ _ _ (by decide) (by decide)]
theorem aArr1_o (S : Mem) (l : Int) {r : Nat} (h0 : r ≠ 15) (h1 : r ≠ 27) (h2 : r ≠ 29) (h3 : r ≠ 30) (h4 : r ≠ 39) (h5 : r ≠ 34) (h6 : r ≠ 41) (h7 : r ≠ 40) : aArr1 S l r = S r := by
  unfold aArr1
  rw [mw_rn _ _ _ h0]
  split
  · rw [aLetOut_o _ _ h1 h2 h3 h4 h5 h6 h7]
  · rw [aTurn_o _ _ _ h5 h6]
theorem aArF_o (l : Int) {r : Nat} (h0 : r ≠ 15) (h1 : r ≠ 27) (h2 : r ≠ 29) (h3 : r ≠ 30) (h4 : r ≠ 39) (h5 : r ≠ 34) (h6 : r ≠ 41) (h7 : r ≠ 40) : ∀ k S, aArF l k S r = S r
  | 0, _ => rfl
  | k + 1, S => by
    unfold aArF
    split
    · rw [aArF_o l h0 h1 h2 h3 h4 h5 h6 h7 k, aArr1_o _ _ h0 h1 h2 h3 h4 h5 h6 h7]
    · rfl
theorem aArs_o (S : Mem) {r : Nat} (h0 : r ≠ 15) (h1 : r ≠ 27) (h2 : r ≠ 29) (h3 : r ≠ 30) (h4 : r ≠ 39) (h5 : r ≠ 34) (h6 : r ≠ 41) (h7 : r ≠ 40) : ∀ k, aArs S k r = S r
  | 0 => rfl
  | k + 1 => by rw [aArs, aAr, aArF_o _ h0 h1 h2 h3 h4 h5 h6 h7, aArs_o S h0 h1 h2 h3 h4 h5 h6 h7 k]
theorem aArF_15 (l : Int) {j : Int} (hj : j ≠ l) : ∀ k S, aArF l k S 15 j = S 15 j
  | 0, _ => rfl
  | k + 1, S => by
    unfold aArF
    split
    · rw [aArF_15 l hj k, aArr1_15, up1_n _ _ hj]
    · rfl
theorem AI_arF {lo : Int → Int} {x l : Int} (l0 : 0 ≤ l) (l4 : l < 4) : ∀ k S, AI S lo x → AI (aArF l k S) lo x
  | 0, _, h => h
  | k + 1, S, h => by
    unfold aArF
    split
    · rename_i hc
      exact AI_arF l0 l4 k _ (AI_arr1 h l0 l4 hc.1)
    · exact h
/-- none of those on this link's way arrives now -/
theorem arF_end {lo : Int → Int} {x l : Int} (l0 : 0 ≤ l) (l4 : l < 4) : ∀ k S, AI S lo x → (S 16 l - S 15 l).toNat = k → ¬ (aArF l k S 15 l < aArF l k S 16 l ∧ aArF l k S 38 (qr (aArF l k S) l (aArF l k S 15 l)) = aArF l k S 5 0)
  | 0, S, h, hk => by
    unfold aArF
    omega
  | k + 1, S, h, hk => by
    by_cases hc : S 15 l < S 16 l ∧ S 38 (qr S l (S 15 l)) = S 5 0
    · have e : aArF l (k + 1) S = aArF l k (aArr1 S l) := by rw [aArF, if_pos hc]
      rw [e]
      refine arF_end l0 l4 k _ (AI_arr1 h l0 l4 hc.1) ?_
      rw [aArr1_15, up1_s, aArr1_o _ _ (by decide) (by decide) (by decide) (by decide) (by decide) (by decide) (by decide) (by decide)]
      omega
    · have e : aArF l (k + 1) S = S := by rw [aArF, if_neg hc]
      rw [e]
      exact hc
theorem AI_lo {S : Mem} {lo lo' : Int → Int} {x : Int} (h : AI S lo x) (h2 : ∀ l, 0 ≤ l → l < 4 → lo' l = lo l ∨ ∀ p, S 15 l ≤ p → p < S 16 l → lo' l < S 38 (qr S l p)) : AI S lo' x := by
  obtain ⟨ha, hl, hb, hn, hh, hf, ht, ks, kh, kf, kl, hq, hi, ho⟩ := h
  refine ⟨ha, hl, hb, hn, hh, hf, ht, ks, kh, kf, kl, ?_, hi, ho⟩
  intro l l0 l4
  obtain ⟨q1, q4, q5, q6, q7⟩ := hq l l0 l4
  refine ⟨q1, fun p p0 p1 => ?_, q5, q6, q7⟩
  obtain ⟨g1, g2, g3, g4⟩ := q4 p p0 p1
  refine ⟨g1, g2, fun a b => ?_, g4⟩
  obtain ⟨w1, w2, w3⟩ := g3 a b
  refine ⟨w1, ?_, w3⟩
  rcases h2 l l0 l4 with e | e
  · rw [e]; exact w2
  · exact e p a b
theorem AI_ar {S : Mem} {lo : Int → Int} {x l : Int} (h : AI S lo x) (l0 : 0 ≤ l) (l4 : l < 4) (hlo : lo l = S 5 0 - 1) : AI (aAr S l) (up1 lo l (S 5 0)) x := by
  have h1 : AI (aAr S l) lo x := AI_arF l0 l4 _ _ h
  have h2 := arF_end l0 l4 _ _ h rfl
  have e5 : aAr S l 5 = S 5 := aArF_o l (by decide) (by decide) (by decide) (by decide) (by decide) (by decide) (by decide) (by decide) _ _
  refine AI_lo h1 (fun l' a b => ?_)
  by_cases e : l' = l
  · subst e
    right
    intro p p0 p1
    rw [up1_s]
    obtain ⟨q1, q4, q5, q6, q7⟩ := h1.2.2.2.2.2.2.2.2.2.2.2.1 l' a b
    have h3 := q6 (aAr S l' 15 l') p (Int.le_refl _) p0 p1
    obtain ⟨-, -, g3, -⟩ := q4 (aAr S l' 15 l') q1.1 (by omega)
    have h4 := (g3 (Int.le_refl _) (by omega)).2.1
    have h5 : ¬ (aAr S l' 15 l' < aAr S l' 16 l' ∧ aAr S l' 38 (qr (aAr S l') l' (aAr S l' 15 l')) = aAr S l' 5 0) := h2
    rw [e5] at h5
    have h6 : aAr S l' 15 l' < aAr S l' 16 l' := by omega
    have h7 : ¬ aAr S l' 38 (qr (aAr S l') l' (aAr S l' 15 l')) = S 5 0 := fun q => h5 ⟨h6, q⟩
    omega
  · left
    rw [up1_n _ _ e]

/-- all links: none that is on its way arrives now or before -/
theorem AI_ars {S : Mem} {x : Int} (h : AI S (fun _ => S 5 0 - 1) x) : ∀ k : Nat, k ≤ 4 → AI (aArs S k) (fun l => if l < k then S 5 0 else S 5 0 - 1) x
  | 0, _ => AI_lo h (fun l a b => Or.inl (by rw [if_neg (by omega)]))
  | k + 1, hk => by
    have e5 : aArs S k 5 = S 5 := aArs_o S (by decide) (by decide) (by decide) (by decide) (by decide) (by decide) (by decide) (by decide) k
    have h1 := AI_ar (l := k) (AI_ars h k (by omega)) (by omega) (by omega) (by rw [e5]; simp)
    refine AI_lo h1 (fun l a b => Or.inl ?_)
    rw [e5]
    simp only [up1]
    push_cast
    by_cases e : l = k
    · rw [if_pos (by omega), if_pos e]
    · rw [if_neg e]
      by_cases e2 : l < k
      · rw [if_pos (by omega), if_pos e2]
      · rw [if_neg (by omega), if_neg e2]
/-- nothing stands at links that aren't -/
theorem AI_nolink {S : Mem} {lo : Int → Int} {x l : Int} (h : AI S lo x) (l0 : S 1 0 ≤ l) (l4 : l < 4) : S 17 l = 0 ∧ S 16 l = 0 ∧ S 15 l = 0 := by
  obtain ⟨ha, hl, hb, hn, hh, hf, ht, ks, kh, kf, kl, hq, hi, ho⟩ := h
  have hL := ha.1.1
  have h1 := (hq l (by omega) l4).1
  have h2 := (kl l (by omega) l4).1
  rw [ct_none (fun i i0 i1 => ?_)] at h2
  · omega
  · rcases hi i i0 (by omega) with q | q
    · simp; omega
    · simp; omega
theorem AI_ars2 {S : Mem} {x : Int} (h : AI S (fun _ => S 5 0 - 1) x) : AI (aArs S (S 1 0).toNat) (fun _ => S 5 0) x := by
  have hL := h.1.1
  have h1 := AI_ars h (S 1 0).toNat (by omega)
  have e1 : aArs S (S 1 0).toNat 1 = S 1 := aArs_o S (by decide) (by decide) (by decide) (by decide) (by decide) (by decide) (by decide) (by decide) _
  refine AI_lo h1 (fun l a b => ?_)
  by_cases e : l < S 1 0
  · left
    rw [if_pos (by omega)]
  · right
    intro p p0 p1
    have := AI_nolink h1 (l := l) (by rw [e1]; omega) b
    omega
/-! coming out in order -/
def bl0 (S : Mem) : Nat → Mem
  | 0 => S
  | k + 1 => mw (bl0 S k) 42 k 0
def aOutC (S : Mem) : Nat → Mem
  | 0 => S
  | k + 1 =>
    let T := aOutC S k
    if T 34 k = 3 ∧ T 42 (T 31 k) = 0 then aLetOut T k else if T 34 k ≠ 4 ∧ T 34 k ≠ 5 then mw T 42 (T 31 k) 1 else T
def aOuts (S : Mem) : Mem := if 0 < S 41 3 then aOutC (bl0 S 16) (S 4 0).toNat else S
theorem AI_scr {S T : Mem} {lo : Int → Int} {x : Int} (h : AI S lo x) (hr : ∀ r, r ≠ 42 → T r = S r) : AI T lo x := by
  have eq : ∀ l' p, 0 ≤ l' → l' < 4 → qr T l' p = qr S l' p := fun l' p a b => by
    show T (11 + l'.toNat) p = _
    rw [hr _ (by omega)]
  obtain ⟨ha, hl, hb, hn, hh, hf, ht, ks, kh, kf, kl, hq, hi, ho⟩ := h
  unfold AI Ja
  simp only [hr, ne_eq, not_false_eq_true, Nat.reduceEqDiff, Nat.reduceLT, Nat.reduceLeDiff, true_or, or_true, forall_const]
  exact ⟨ha, hl, hb, hn, hh, hf, ht, ks, kh, kf, kl, Jq_rw hq eq, Ji_rw hi ha.1.2 eq, ho⟩
theorem bl0_o (S : Mem) {r : Nat} (h : r ≠ 42) : ∀ k, bl0 S k r = S r
  | 0 => rfl
  | k + 1 => by rw [bl0, mw_rn _ _ _ h, bl0_o S h k]
theorem bl0_42 (S : Mem) : ∀ (k : Nat) (f : Int), 0 ≤ f → f < k → bl0 S k 42 f = 0
  | 0, f, a, b => by omega
  | k + 1, f, a, b => by
    rw [bl0, mw_rs, up1_e]
    split
    · rfl
    · exact bl0_42 S k f a (by omega)
theorem aOutC_o (S : Mem) {r : Nat} (h0 : r ≠ 42) (h1 : r ≠ 27) (h2 : r ≠ 29) (h3 : r ≠ 30) (h4 : r ≠ 39) (h5 : r ≠ 34) (h6 : r ≠ 41) (h7 : r ≠ 40) : ∀ k, aOutC S k r = S r
  | 0 => rfl
  | k + 1 => by
    unfold aOutC
    dsimp only
    split
    · rw [aLetOut_o _ _ h1 h2 h3 h4 h5 h6 h7, aOutC_o S h0 h1 h2 h3 h4 h5 h6 h7 k]
    · split
      · rw [mw_rn _ _ _ h0, aOutC_o S h0 h1 h2 h3 h4 h5 h6 h7 k]
      · rw [aOutC_o S h0 h1 h2 h3 h4 h5 h6 h7 k]
theorem AI_outC {S : Mem} {lo : Int → Int} {x : Int} (h : AI S lo x) : ∀ k : Nat, (k : Int) ≤ S 4 0 → AI (aOutC S k) lo x
  | 0, _ => h
  | k + 1, hk => by
    have ih := AI_outC h k (by omega)
    have e4 : aOutC S k 4 = S 4 := aOutC_o S (by decide) (by decide) (by decide) (by decide) (by decide) (by decide) (by decide) (by decide) k
    unfold aOutC
    dsimp only
    split
    · rename_i hc
      exact AI_out ih (by omega) (by rw [e4]; omega) hc.1
    · split
      · exact AI_scr ih (fun r hr => mw_rn _ _ _ hr)
      · exact ih
theorem AI_outs {S : Mem} {lo : Int → Int} {x : Int} (h : AI S lo x) : AI (aOuts S) lo x := by
  unfold aOuts
  split
  · refine AI_outC (AI_scr h (fun r hr => bl0_o S hr 16)) _ ?_
    rw [bl0_o S (by decide)]
    have := h.1.2.2.1
    omega
  · exact h
theorem aOuts_o (S : Mem) {r : Nat} (h0 : r ≠ 42) (h1 : r ≠ 27) (h2 : r ≠ 29) (h3 : r ≠ 30) (h4 : r ≠ 39) (h5 : r ≠ 34) (h6 : r ≠ 41) (h7 : r ≠ 40) : aOuts S r = S r := by
  unfold aOuts
  split
  · rw [aOutC_o _ h0 h1 h2 h3 h4 h5 h6 h7, bl0_o S h0]
  · rfl
end
section
/-! Held letters let go; a bucket comes there; ticks. -/
def aLets (S : Mem) (b l : Int) : Nat → Mem
  | 0 => S
  | k + 1 =>
    let T := aLets S b l k
    if T 34 k = 0 ∧ T 33 k = b then aEnqH T k l else T
theorem aEnqH_o (S : Mem) (i l : Int) {r : Nat} (q1 : r ≠ 22) (q2 : r ≠ 17) (q3 : r ≠ 34) (q4 : r ≠ 35) (q5 : r ≠ 41) (q6 : r < 11 ∨ 15 ≤ r) (hl : l < 4) : aEnqH S i l r = S r := by
  unfold aEnqH
  rw [mw_rn _ _ _ q1, aEnq_o _ _ _ q2 q3 q4 q5 (by omega)]
theorem aEnqH_34 (S : Mem) (i : Int) {l : Int} (hl : l < 4) : aEnqH S i l 34 = up1 (S 34) i 1 := by unfold aEnqH; rw [mw_rn _ _ _ (by decide), aEnq_34 _ _ hl]
theorem aLets_o (S : Mem) (b l : Int) {r : Nat} (q1 : r ≠ 22) (q2 : r ≠ 17) (q3 : r ≠ 34) (q4 : r ≠ 35) (q5 : r ≠ 41) (q6 : r < 11 ∨ 15 ≤ r) (hl : l < 4) : ∀ k, aLets S b l k r = S r
  | 0 => rfl
  | k + 1 => by
    unfold aLets
    dsimp only
    split
    · rw [aEnqH_o _ _ _ q1 q2 q3 q4 q5 q6 hl, aLets_o S b l q1 q2 q3 q4 q5 q6 hl k]
    · exact aLets_o S b l q1 q2 q3 q4 q5 q6 hl k
/-- which letters are held behind k of them -/
theorem aLets_34 (S : Mem) (b : Int) {l : Int} (hl : l < 4) : ∀ (k : Nat) (i : Int), aLets S b l k 34 i = if 0 ≤ i ∧ i < k ∧ S 34 i = 0 ∧ S 33 i = b then 1 else S 34 i
  | 0, i => by rw [if_neg (by omega)]; rfl
  | k + 1, i => by
    have ih := aLets_34 S b hl k
    have e33 : aLets S b l k 33 = S 33 := aLets_o S b l (by decide) (by decide) (by decide) (by decide) (by decide) (by omega) hl k
    have ik : aLets S b l k 34 k = S 34 k := by rw [ih, if_neg (by omega)]
    unfold aLets
    dsimp only
    rw [ik, e33]
    by_cases hc : S 34 k = 0 ∧ S 33 k = b
    · rw [if_pos hc, aEnqH_34 _ _ hl, up1_e]
      by_cases e : i = k
      · subst e
        rw [if_pos rfl, if_pos ⟨by omega, by omega, hc⟩]
      · rw [if_neg e, ih]
        by_cases h2 : 0 ≤ i ∧ i < k ∧ S 34 i = 0 ∧ S 33 i = b
        · rw [if_pos h2, if_pos ⟨h2.1, by omega, h2.2.2⟩]
        · rw [if_neg h2, if_neg (fun q => h2 ⟨q.1, by omega, q.2.2⟩)]
    · rw [if_neg hc, ih]
      by_cases h2 : 0 ≤ i ∧ i < k ∧ S 34 i = 0 ∧ S 33 i = b
      · rw [if_pos h2, if_pos ⟨h2.1, by omega, h2.2.2⟩]
      · rw [if_neg h2, if_neg (fun q => ?_)]
        by_cases e : i = k
        · subst e; exact hc q.2.2
        · exact h2 ⟨q.1, by omega, q.2.2⟩
theorem AI_lets {S : Mem} {lo : Int → Int} {x b l : Int} (h : AI S lo x) (hu : S 9 l = 1) : ∀ k : Nat, (k : Int) ≤ S 4 0 → AI (aLets S b l k) lo x
  | 0, _ => h
  | k + 1, hk => by
    obtain ⟨l0, lL, l4⟩ := AI_up h hu
    have ih := AI_lets (b := b) h hu k (by omega)
    have e4 : aLets S b l k 4 = S 4 := aLets_o S b l (by decide) (by decide) (by decide) (by decide) (by decide) (by omega) l4 k
    have e9 : aLets S b l k 9 = S 9 := aLets_o S b l (by decide) (by decide) (by decide) (by decide) (by decide) (by omega) l4 k
    unfold aLets
    dsimp only
    split
    · rename_i hc
      exact AI_enqH ih (by omega) (by rw [e4]; omega) hc.1 (by rw [e9]; exact hu)
    · exact ih
/-- nothing is held: nothing changes -/
theorem aLets_none {S : Mem} {b l : Int} : ∀ k : Nat, (∀ i : Int, 0 ≤ i → i < k → ¬ (S 34 i = 0 ∧ S 33 i = b)) → aLets S b l k = S
  | 0, _ => rfl
  | k + 1, h => by
    have ih := aLets_none (S := S) (b := b) (l := l) k (fun i a c => h i a (by omega))
    unfold aLets
    dsimp only
    rw [ih, if_neg (h k (by omega) (by omega))]
theorem mw_turn (S : Mem) {r : Nat} (i v j s : Int) (h1 : r ≠ 34) (h2 : r ≠ 41) : aTurn (mw S r i v) j s = mw (aTurn S j s) r i v := by
  unfold aTurn aDec
  rw [mw_rn _ _ _ (Ne.symm h1), mw_rn _ _ _ (Ne.symm h2)]
  rw [mw_comm S i v _ _ h2, mw_rn _ _ _ (Ne.symm h2), mw_comm _ i v _ _ h2, mw_comm _ i v _ _ h1]
theorem mw_enqH (S : Mem) {r : Nat} (i v j l : Int) (q1 : r ≠ 22) (q2 : r ≠ 17) (q3 : r ≠ 34) (q4 : r ≠ 35) (q5 : r ≠ 41) (q6 : r < 11 ∨ 15 ≤ r) (q7 : r ≠ 33) (hl : l < 4) : aEnqH (mw S r i v) j l = mw (aEnqH S j l) r i v := by
  unfold aEnqH aEnq
  rw [mw_rn _ _ _ (Ne.symm q1), mw_rn _ _ _ (Ne.symm q2), mw_rn _ _ _ (Ne.symm q7)]
  rw [mw_comm S i v _ _ (show r ≠ 11 + l.toNat by omega), mw_comm _ i v _ _ q2, mw_comm _ i v _ _ q4, mw_turn _ _ _ _ _ q3 q5, mw_comm _ i v _ _ q1]
theorem mw_lets (S : Mem) {r : Nat} (i v b l : Int) (q1 : r ≠ 22) (q2 : r ≠ 17) (q3 : r ≠ 34) (q4 : r ≠ 35) (q5 : r ≠ 41) (q6 : r < 11 ∨ 15 ≤ r) (q7 : r ≠ 33) (hl : l < 4) : ∀ k, aLets (mw S r i v) b l k = mw (aLets S b l k) r i v
  | 0 => rfl
  | k + 1 => by
    unfold aLets
    dsimp only
    rw [mw_lets S i v b l q1 q2 q3 q4 q5 q6 q7 hl k, mw_rn _ _ _ (Ne.symm q3), mw_rn _ _ _ (Ne.symm q7)]
    split
    · rw [mw_enqH _ _ _ _ _ q1 q2 q3 q4 q5 q6 q7 hl]
    · rfl
/-- buckets change -/
theorem AI_b {S T : Mem} {lo : Int → Int} {x x' : Int} (h : AI S lo x) (hr : ∀ r, r ≠ 19 → r ≠ 20 → r ≠ 21 → r ≠ 23 → T r = S r) (hb' : Jb (S 1 0) x' (S 9) (T 19) (T 20) (T 21)) (hn' : Jn x' (S 9) (T 19)) (hh' : Jh (S 4 0) (S 34) (S 33) (T 19) (T 21)) : AI T lo x' := by
  have eq : ∀ l' p, 0 ≤ l' → l' < 4 → qr T l' p = qr S l' p := fun l' p a b => by
    show T (11 + l'.toNat) p = _
    rw [hr _ (by omega) (by omega) (by omega) (by omega)]
  obtain ⟨ha, hl, hb, hn, hh, hf, ht, ks, kh, kf, kl, hq, hi, ho⟩ := h
  unfold AI Ja
  simp only [hr, ne_eq, not_false_eq_true, Nat.reduceEqDiff, Nat.reduceLT, Nat.reduceLeDiff, true_or, or_true, forall_const]
  exact ⟨ha, hl, hb', hn', hh', hf, ht, ks, kh, kf, kl, Jq_rw hq eq, Ji_rw hi ha.1.2 eq, ho⟩
def aRel (S : Mem) (b : Int) : Mem := if S 19 b = -6 then mw S 21 b 0 else aLets (mw S 21 b 0) b (S 19 b) (S 4 0).toNat
/-- behind the letting go none of the bucket's letters is held, and it may hold no more -/
theorem lets_free {S : Mem} {b l : Int} (hl : l < 4) (h0 : 0 ≤ S 4 0) : ∀ i : Int, 0 ≤ i → i < S 4 0 → aLets S b l (S 4 0).toNat 34 i = 0 → S 33 i ≠ b := by
  intro i i0 i1 h2 e
  rw [aLets_34 S b hl] at h2
  by_cases h3 : S 34 i = 0
  · rw [if_pos ⟨i0, by omega, h3, e⟩] at h2
    omega
  · rw [if_neg (fun q => h3 q.2.2.1)] at h2
    exact h3 h2
/-- a bucket that is on a link that is up lets go -/
theorem AI_rel {S : Mem} {lo : Int → Int} {x b : Int} (h : AI S lo x) (hu : S 19 b = -6 ∨ S 9 (S 19 b) = 1) (hto : S 21 b = 1 → S 19 b ≠ -6) : AI (aRel S b) lo x := by
  have h0 := h.1.2.2.1
  unfold aRel
  split
  · rename_i e
    have hz : S 21 b = 0 := by
      have := (h.2.2.1 b).2.2.1
      rcases this with q | q
      · exact q
      · exact absurd e (hto q)
    rw [show (0 : Int) = S 21 b from hz.symm, mw_id]
    exact h
  · rename_i e
    have hu : S 9 (S 19 b) = 1 := by rcases hu with q | q; exact absurd q e; exact q
    obtain ⟨l0, lL, l4⟩ := AI_up h hu
    rw [mw_lets S _ _ _ _ (by decide) (by decide) (by decide) (by decide) (by decide) (by omega) (by decide) l4]
    have h1 := AI_lets (b := b) h hu (S 4 0).toNat (by omega)
    have eo : ∀ r, r ≠ 22 → r ≠ 17 → r ≠ 34 → r ≠ 35 → r ≠ 41 → (r < 11 ∨ 15 ≤ r) → aLets S b (S 19 b) (S 4 0).toNat r = S r := fun r a1 a2 a3 a4 a5 a6 => aLets_o S b _ a1 a2 a3 a4 a5 a6 l4 _
    obtain ⟨ha, hl, hb, hn, hh, -⟩ := id h1
    simp only [eo, ne_eq, not_false_eq_true, Nat.reduceEqDiff, Nat.reduceLT, Nat.reduceLeDiff, true_or, or_true, forall_const] at hb hn hh
    refine AI_b h1 (fun r a1 a2 a3 a4 => mw_rn _ _ _ a3) ?_ ?_ ?_
    · simp only [mw_rs, mw_rn, eo, ne_eq, not_false_eq_true, Nat.reduceEqDiff, Nat.reduceLT, Nat.reduceLeDiff, true_or, or_true, forall_const]
      intro c
      obtain ⟨g1, g2, g3, g4, g5⟩ := hb c
      refine ⟨g1, g2, ?_, ?_, g5⟩
      · rw [up1_e]
        split
        · exact Or.inl rfl
        · exact g3
      · rw [up1_e]
        split
        · exact fun q => by omega
        · exact g4
    · simp only [mw_rn, eo, ne_eq, not_false_eq_true, Nat.reduceEqDiff, Nat.reduceLT, Nat.reduceLeDiff, true_or, or_true, forall_const]
      exact hn
    · simp only [mw_rs, mw_rn, eo, ne_eq, not_false_eq_true, Nat.reduceEqDiff, Nat.reduceLT, Nat.reduceLeDiff, true_or, or_true, forall_const]
      intro i i0 i1 i2
      rcases hh i i0 i1 i2 with q | q
      · left
        rw [up1_n _ _ (lets_free l4 h0.1 i i0 i1 i2)]
        exact q
      · right
        exact q
end
section
/-! A bucket comes there; a tick. -/
def mayk (S : Mem) (b l : Int) : Nat → Bool
  | 0 => true
  | k + 1 => mayk S b l k && !(decide (S 33 k = b) && (decide (S 34 k = 1) || (decide (S 34 k = 2) && decide (S 5 0 + 1 + S 8 l ≤ S 38 k))))
def may (S : Mem) (b l : Int) : Bool := mayk S b l (S 4 0).toNat
def aRch0 (S : Mem) (b l : Int) : Mem := mw (mw (if S 20 b = -6 then S else mw S 23 b (S 23 b + 1)) 20 b (-6)) 19 b l
def aReach (S : Mem) (b l : Int) : Mem := aRel (aRch0 S b l) b
def goal (S : Mem) (b : Int) : Int := if S 20 b = -6 then S 19 b else S 20 b
def aSettle (S : Mem) (b : Int) : Mem := if goal S b ≠ -6 ∧ may S b (goal S b) = true then aReach S b (goal S b) else S
def aSets (S : Mem) : Nat → Mem
  | 0 => S
  | k + 1 =>
    let T := aSets S k
    if T 20 k ≠ -6 ∨ T 21 k ≠ 0 then aSettle T k else T
def aTick (S : Mem) : Mem := aSets (aOuts (aArs (aLvs (mw S 5 0 (S 5 0 + 1)) (S 1 0).toNat) (S 1 0).toNat)) 8
def NI (S : Mem) : Prop := AI S (fun _ => S 5 0) (-1)
theorem aRch0_19 (S : Mem) (b l : Int) : aRch0 S b l 19 = up1 (S 19) b l := by
  unfold aRch0
  rw [mw_rs, mw_rn _ _ _ (by decide)]
  split
  · rfl
  · rw [mw_rn _ _ _ (by decide)]
theorem aRch0_20 (S : Mem) (b l : Int) : aRch0 S b l 20 = up1 (S 20) b (-6) := by
  unfold aRch0
  rw [mw_rn _ _ _ (by decide), mw_rs]
  split
  · rfl
  · rw [mw_rn _ _ _ (by decide)]
theorem aRch0_o (S : Mem) (b l : Int) {r : Nat} (h1 : r ≠ 19) (h2 : r ≠ 20) (h3 : r ≠ 23) : aRch0 S b l r = S r := by
  unfold aRch0
  rw [mw_rn _ _ _ h1, mw_rn _ _ _ h2]
  split
  · rfl
  · rw [mw_rn _ _ _ h3]
theorem AI_rch0 {S : Mem} {lo : Int → Int} {x b l : Int} (h : AI S lo x) (b0 : 0 ≤ b) (b8 : b < 8) (hu : S 9 l = 1) (hon : S 19 b ≠ -6) : AI (aRch0 S b l) lo x := by
  obtain ⟨l0, lL, l4⟩ := AI_up h hu
  obtain ⟨ha, hl, hb, hn, hh, -⟩ := id h
  refine AI_b h (fun r a1 a2 a3 a4 => aRch0_o S b l a1 a2 a4) ?_ ?_ ?_
  · rw [aRch0_19, aRch0_20, aRch0_o S b l (by decide) (by decide) (by decide)]
    intro c
    by_cases e : c = b
    · subst e
      simp only [up1_s]
      exact ⟨Or.inr ⟨l0, lL, Or.inl hu⟩, Or.inl trivial, (hb c).2.2.1, fun _ => by omega, fun q => by omega⟩
    · simp only [up1_n _ _ e]
      exact hb c
  · rw [aRch0_19]
    intro hy hx c c0 c8
    rw [up1_e]
    split
    · omega
    · exact hn hy hx c c0 c8
  · rw [aRch0_19, aRch0_o S b l (by decide) (by decide) (by decide)]
    intro i i0 i1 i2
    rcases hh i i0 i1 i2 with q | q
    · exact Or.inl q
    · right
      rw [up1_e]
      split
      · rename_i e
        rw [e] at q
        exact absurd q hon
      · exact q
theorem AI_reach {S : Mem} {lo : Int → Int} {x b l : Int} (h : AI S lo x) (b0 : 0 ≤ b) (b8 : b < 8) (hu : S 9 l = 1) (hon : S 19 b ≠ -6) : AI (aReach S b l) lo x := by
  obtain ⟨l0, lL, l4⟩ := AI_up h hu
  refine AI_rel (AI_rch0 h b0 b8 hu hon) (Or.inr ?_) (fun _ => ?_)
  · rw [aRch0_19, up1_s, aRch0_o S b l (by decide) (by decide) (by decide)]
    exact hu
  · rw [aRch0_19, up1_s]
    omega
theorem AI_settle {S : Mem} {lo : Int → Int} {x b : Int} (h : AI S lo x) (b0 : 0 ≤ b) (b8 : b < 8) (hg : goal S b ≠ -6 → S 9 (goal S b) = 1 ∧ S 19 b ≠ -6) : AI (aSettle S b) lo x := by
  unfold aSettle
  split
  · rename_i hc
    obtain ⟨g1, g2⟩ := hg hc.1
    exact AI_reach h b0 b8 g1 g2
  · exact h
theorem goal_up {S : Mem} {lo : Int → Int} {b : Int} (h : AI S lo (-1)) (hg : goal S b ≠ -6) : S 9 (goal S b) = 1 ∧ S 19 b ≠ -6 := by
  obtain ⟨g1, g2, -, -⟩ := h.2.2.1 b
  unfold goal at hg ⊢
  split
  · rename_i e
    rw [if_pos e] at hg
    rcases g1 with q | ⟨q1, q2, q3 | q3⟩
    · exact absurd q hg
    · exact ⟨q3, hg⟩
    · omega
  · rename_i e
    rcases g2 with q | ⟨q1, q2, q3 | q3, q4, q5⟩
    · exact absurd q e
    · exact ⟨q3, q4⟩
    · omega
theorem AI_sets {S : Mem} {lo : Int → Int} (h : AI S lo (-1)) : ∀ k : Nat, k ≤ 8 → AI (aSets S k) lo (-1)
  | 0, _ => h
  | k + 1, hk => by
    have ih := AI_sets h k (by omega)
    unfold aSets
    dsimp only
    split
    · exact AI_settle ih (by omega) (by omega) (goal_up ih)
    · exact ih
theorem AI_time {S : Mem} {lo : Int → Int} {x v : Int} (h : AI S lo x) (h1 : S 5 0 ≤ v) (h2 : v ≤ 1000000) : AI (mw S 5 0 v) lo x := by
  have eq : ∀ l' p, 0 ≤ l' → l' < 4 → qr (mw S 5 0 v) l' p = qr S l' p := fun l' p a b => mwq (by omega) _ _ a b
  obtain ⟨ha, hl, hb, hn, hh, hf, ht, ks, kh, kf, kl, hq, hi, ho⟩ := h
  have hr : ∀ r, r ≠ 5 → mw S 5 0 v r = S r := fun r hr => mw_rn _ _ _ hr
  have e50 : mw S 5 0 v 5 0 = v := by rw [mw_rs, up1_s]
  have e51 : mw S 5 0 v 5 1 = S 5 1 := by rw [mw_rs, up1_n _ _ (by decide)]
  unfold AI Ja
  simp only [hr, e50, e51, ne_eq, not_false_eq_true, Nat.reduceEqDiff, Nat.reduceLT, Nat.reduceLeDiff, true_or, or_true, forall_const]
  refine ⟨⟨ha.1, ha.2.1, ha.2.2.1, ⟨by have := ha.2.2.2.1; omega, h2⟩, ha.2.2.2.2⟩, hl, hb, hn, hh, hf, ht, ks, kh, kf, kl, Jq_rw ?_ eq, Ji_rw hi ha.1.2 eq, ho⟩
  intro l l0 l4
  obtain ⟨q1, q4, q5, q6, q7⟩ := hq l l0 l4
  refine ⟨q1, fun p p0 p1 => ?_, q5, q6, q7⟩
  obtain ⟨g1, g2, g3, g4⟩ := q4 p p0 p1
  exact ⟨g1, g2, fun a b => ⟨(g3 a b).1, (g3 a b).2.1, by have := (g3 a b).2.2; omega⟩, g4⟩
/-- rows that a bucket's settling leaves -/
theorem aRel_o (S : Mem) (b : Int) {r : Nat} (q0 : r ≠ 21) (q1 : r ≠ 22) (q2 : r ≠ 17) (q3 : r ≠ 34) (q4 : r ≠ 35) (q5 : r ≠ 41) (q6 : r < 11 ∨ 15 ≤ r) (hl : S 19 b < 4) : aRel S b r = S r := by
  unfold aRel
  split
  · rw [mw_rn _ _ _ q0]
  · rw [aLets_o _ _ _ q1 q2 q3 q4 q5 q6 hl, mw_rn _ _ _ q0]
theorem aReach_o (S : Mem) (b l : Int) {r : Nat} (p1 : r ≠ 19) (p2 : r ≠ 20) (p3 : r ≠ 23) (q0 : r ≠ 21) (q1 : r ≠ 22) (q2 : r ≠ 17) (q3 : r ≠ 34) (q4 : r ≠ 35) (q5 : r ≠ 41) (q6 : r < 11 ∨ 15 ≤ r) (hl : l < 4) : aReach S b l r = S r := by
  unfold aReach
  rw [aRel_o _ _ q0 q1 q2 q3 q4 q5 q6 (by rw [aRch0_19, up1_s]; exact hl), aRch0_o _ _ _ p1 p2 p3]
theorem goal_lt {S : Mem} {lo : Int → Int} {x b : Int} (h : AI S lo x) : goal S b < 4 := by
  obtain ⟨g1, g2, -, -⟩ := h.2.2.1 b
  have := h.1.1
  unfold goal
  split <;> omega
theorem aSettle_o {S : Mem} {lo : Int → Int} {x : Int} (h : AI S lo x) (b : Int) {r : Nat} (p1 : r ≠ 19) (p2 : r ≠ 20) (p3 : r ≠ 23) (q0 : r ≠ 21) (q1 : r ≠ 22) (q2 : r ≠ 17) (q3 : r ≠ 34) (q4 : r ≠ 35) (q5 : r ≠ 41) (q6 : r < 11 ∨ 15 ≤ r) : aSettle S b r = S r := by
  unfold aSettle
  split
  · exact aReach_o _ _ _ p1 p2 p3 q0 q1 q2 q3 q4 q5 q6 (goal_lt h)
  · rfl
theorem aSets_o {S : Mem} {lo : Int → Int} (h : AI S lo (-1)) {r : Nat} (p1 : r ≠ 19) (p2 : r ≠ 20) (p3 : r ≠ 23) (q0 : r ≠ 21) (q1 : r ≠ 22) (q2 : r ≠ 17) (q3 : r ≠ 34) (q4 : r ≠ 35) (q5 : r ≠ 41) (q6 : r < 11 ∨ 15 ≤ r) : ∀ k : Nat, k ≤ 8 → aSets S k r = S r
  | 0, _ => rfl
  | k + 1, hk => by
    unfold aSets
    dsimp only
    split
    · rw [aSettle_o (AI_sets h k (by omega)) _ p1 p2 p3 q0 q1 q2 q3 q4 q5 q6, aSets_o h p1 p2 p3 q0 q1 q2 q3 q4 q5 q6 k (by omega)]
    · exact aSets_o h p1 p2 p3 q0 q1 q2 q3 q4 q5 q6 k (by omega)
/-- the stages of a tick -/
def tk1 (S : Mem) : Mem := mw S 5 0 (S 5 0 + 1)
def tk2 (S : Mem) : Mem := aLvs (tk1 S) (S 1 0).toNat
def tk3 (S : Mem) : Mem := aArs (tk2 S) (S 1 0).toNat
def tk4 (S : Mem) : Mem := aOuts (tk3 S)
theorem aTick_eq (S : Mem) : aTick S = aSets (tk4 S) 8 := rfl
theorem AI_tk1 {S : Mem} (h : NI S) (ht : S 5 0 < 1000000) : AI (tk1 S) (fun _ => S 5 0) (-1) := AI_time h (by omega) (by omega)
theorem tk1_t (S : Mem) : tk1 S 5 0 = S 5 0 + 1 := by unfold tk1; rw [mw_rs, up1_s]
theorem AI_tk2 {S : Mem} (h : NI S) (ht : S 5 0 < 1000000) : AI (tk2 S) (fun _ => S 5 0) (-1) := AI_lvs (AI_tk1 h ht) (fun l => by rw [tk1_t]; omega) _
theorem tk2_5 (S : Mem) : tk2 S 5 = tk1 S 5 := aLvs_o _ (by decide) (by decide) (by decide) (by decide) (by decide) (by decide) _
theorem tk2_1 (S : Mem) : tk2 S 1 = S 1 := by
  unfold tk2
  rw [aLvs_o _ (by decide) (by decide) (by decide) (by decide) (by decide) (by decide)]
  exact mw_rn _ _ _ (by decide)
theorem AI_tk3 {S : Mem} (h : NI S) (ht : S 5 0 < 1000000) : AI (tk3 S) (fun _ => S 5 0 + 1) (-1) := by
  have h1 := AI_tk2 h ht
  have e : tk2 S 5 0 = S 5 0 + 1 := by rw [tk2_5]; exact tk1_t S
  have h2 : AI (tk2 S) (fun _ => tk2 S 5 0 - 1) (-1) := by rw [e, show S 5 0 + 1 - 1 = S 5 0 by omega]; exact h1
  have h3 := AI_ars2 h2
  rw [e, tk2_1] at h3
  exact h3
theorem tk3_5 (S : Mem) : tk3 S 5 = tk1 S 5 := by
  unfold tk3
  rw [aArs_o _ (by decide) (by decide) (by decide) (by decide) (by decide) (by decide) (by decide) (by decide), tk2_5]
theorem AI_tk4 {S : Mem} (h : NI S) (ht : S 5 0 < 1000000) : AI (tk4 S) (fun _ => S 5 0 + 1) (-1) := AI_outs (AI_tk3 h ht)
theorem tk4_5 (S : Mem) : tk4 S 5 = tk1 S 5 := by
  unfold tk4
  rw [aOuts_o _ (by decide) (by decide) (by decide) (by decide) (by decide) (by decide) (by decide) (by decide), tk3_5]
theorem aTick_5 {S : Mem} (h : NI S) (ht : S 5 0 < 1000000) : aTick S 5 = tk1 S 5 := by
  rw [aTick_eq, aSets_o (AI_tk4 h ht) (by decide) (by decide) (by decide) (by decide) (by decide) (by decide) (by decide) (by decide) (by decide) (by omega) 8 (by omega), tk4_5]
theorem NI_tick {S : Mem} (h : NI S) (ht : S 5 0 < 1000000) : NI (aTick S) := by
  unfold NI
  rw [aTick_5 h ht, tk1_t]
  exact AI_sets (AI_tk4 h ht) 8 (by omega)
def aTicks (S : Mem) : Nat → Mem
  | 0 => S
  | k + 1 => aTick (aTicks S k)
theorem NI_ticks {S : Mem} (h : NI S) : ∀ k : Nat, S 5 0 + k ≤ 1000000 → NI (aTicks S k) ∧ aTicks S k 5 0 = S 5 0 + k
  | 0, _ => ⟨h, by simp [aTicks]⟩
  | k + 1, hk => by
    obtain ⟨h1, h2⟩ := NI_ticks h k (by omega)
    refine ⟨NI_tick h1 (by omega), ?_⟩
    rw [aTicks, aTick_5 h1 (by omega), tk1_t, h2]
    push_cast
    omega
/-! nothing is busy: a tick changes the time alone -/
def idle (S : Mem) : Prop := S 41 1 + S 41 2 + S 41 3 ≤ 0 ∧ ∀ b, 0 ≤ b → b < 8 → S 20 b = -6 ∧ S 21 b = 0
theorem idle_tick {S : Mem} (h : NI S) (hi : idle S) : aTick S = tk1 S := by
  obtain ⟨ha, hl, hb, hn, hh, hf, ht, ks, kh, kf, kl, hq, hi2, ho⟩ := id h
  have k1 := ks 1 (by decide) (by decide)
  have k2 := ks 2 (by decide) (by decide)
  have k3 := ks 3 (by decide) (by decide)
  have n1 := ct_nn (fun j => decide (S 34 j = 1)) (S 4 0).toNat
  have n2 := ct_nn (fun j => decide (S 34 j = 2)) (S 4 0).toNat
  have n3 := ct_nn (fun j => decide (S 34 j = 3)) (S 4 0).toNat
  have hc := hi.1
  have z1 : ∀ l, 0 ≤ l → l < 4 → S 17 l - S 16 l = 0 ∧ S 16 l - S 15 l = 0 := fun l l0 l4 => by
    have q := kl l l0 l4
    rw [q.2.1, q.2.2]
    constructor
    · refine ct_none (fun i i0 i1 => ?_)
      have := ct_zero (p := fun j => decide (S 34 j = 1)) (n := (S 4 0).toNat) (by omega) i i0 i1
      simp at this
      simp [this]
    · refine ct_none (fun i i0 i1 => ?_)
      have := ct_zero (p := fun j => decide (S 34 j = 2)) (n := (S 4 0).toNat) (by omega) i i0 i1
      simp at this
      simp [this]
  have er : ∀ r, r ≠ 5 → tk1 S r = S r := fun r hr => mw_rn _ _ _ hr
  have e2 : ∀ k : Nat, k ≤ 4 → aLvs (tk1 S) k = tk1 S := by
    intro k
    induction k with
    | zero => intro _; rfl
    | succ k ih =>
      intro hk
      rw [aLvs, ih (by omega), aLv]
      split
      · rfl
      · have hz := (z1 k (by omega) (by omega)).1
        have hsp := hl.2.2 k
        have : lvN (tk1 S) k = 0 := by
          unfold lvN
          rw [er 17 (by decide), er 16 (by decide), er 7 (by decide)]
          split <;> omega
        rw [this]
        rfl
  have e3 : ∀ k : Nat, k ≤ 4 → aArs (tk1 S) k = tk1 S := by
    intro k
    induction k with
    | zero => intro _; rfl
    | succ k ih =>
      intro hk
      rw [aArs, ih (by omega), aAr, er 16 (by decide), er 15 (by decide), (z1 k (by omega) (by omega)).2]
      rfl
  have e4 : aOuts (tk1 S) = tk1 S := by
    unfold aOuts
    rw [if_neg]
    rw [er 41 (by decide)]
    omega
  have e5 : ∀ k : Nat, k ≤ 8 → aSets (tk1 S) k = tk1 S := by
    intro k
    induction k with
    | zero => intro _; rfl
    | succ k ih =>
      intro hk
      have := hi.2 k (by omega) (by omega)
      unfold aSets
      dsimp only
      rw [ih (by omega), if_neg]
      rw [er 20 (by decide), er 21 (by decide)]
      omega
  have hL := ha.1
  rw [aTick_eq]
  unfold tk4 tk3 tk2
  rw [e2 _ (by omega), e3 _ (by omega), e4, e5 8 (by omega)]
end
section
/-! The class's Traffic, walked. -/
theorem shp_row {l : Int} (h0 : 0 ≤ l) (h4 : l < 4) : shp (9 + 2 + l.toNat) = some (.inr (0, 400)) := by
  have : l = 0 ∨ l = 1 ∨ l = 2 ∨ l = 3 := by omega
  rcases this with rfl | rfl | rfl | rfl <;> rfl
theorem ok_enqueue {d : Nat} {M : Mem} {i l : Int} {P : PV → Mem → Prop} (i0 : 0 ≤ i) (i4 : i < 400) (l0 : 0 ≤ l) (l4 : l < 4) (he0 : 0 ≤ M 17 l) (he1 : M 17 l < 400) (hst : 0 ≤ M 34 i ∧ M 34 i ≤ 5) (hP : P none (aEnq M i l)) : gOk mX5_enqueue (d + 1) [vR 5, vI i, vI l] M P := by
  refine gOk_of mX5_enqueue_ok (by simp) (Nat.le_of_ble_eq_true rfl) ?_
  repeat (refine gV_s rfl (by first | exact trivial | omega) ?_)
  refine gV_it rfl (by unfold rng; omega) he1 ?_
  repeat (refine gV_s rfl (by first | exact trivial | omega) ?_)
  refine gV_iast rfl (shp_row l0 l4) (by decide) ⟨he0, he1⟩ ?_
  repeat (refine gV_s rfl (by first | exact trivial | omega) ?_)
  refine gV_cV (ok_turn (P := fun r M' => r = none ∧ M' = aEnq M i l) i0 i4 (by omega) ?_ ⟨rfl, rfl⟩) mX2_turn_ok sX5_X2_turn rfl rfl rfl rfl rfl rfl ?_
  · rw [mw_rn _ _ _ (by decide), mw_rn _ _ _ (by decide), mw_rn _ _ _ (show (34 : Nat) ≠ 9 + 2 + l.toNat by omega)]
    exact hst
  · rintro r M' ⟨rfl, rfl⟩
    exact gV_retv rfl trivial hP
theorem ok_letOut {d : Nat} {M : Mem} {i : Int} {P : PV → Mem → Prop} (i0 : 0 ≤ i) (i4 : i < 400) (ho0 : 0 ≤ M 41 4) (ho1 : M 41 4 < 400) (hst : 0 ≤ M 34 i ∧ M 34 i ≤ 5) (hf : 0 ≤ M 31 i ∧ M 31 i < 16) (hp : rng (M 32 i)) (hla : rng (M 29 (M 31 i))) (hP : P none (aLetOut M i)) : gOk mX5_letOut (d + 1) [vR 5, vI i] M P := by
  refine gOk_of mX5_letOut_ok (by simp) (Nat.le_of_ble_eq_true rfl) ?_
  repeat (refine gV_s rfl (by first | exact trivial | omega) ?_)
  refine gV_cV (ok_turn (P := fun r M' => r = none ∧ M' = aTurn (mw M 40 (M 41 4) i) i 4) i0 i4 (by omega) ?_ ⟨rfl, rfl⟩) mX2_turn_ok sX5_X2_turn rfl rfl rfl rfl rfl rfl ?_
  · rw [mw_rn _ _ _ (by decide)]
    exact hst
  · rintro r M' ⟨rfl, rfl⟩
    repeat (refine gV_s rfl (by first | exact trivial | omega) ?_)
    have e5 : aTurn (mw M 40 (M 41 4) i) i 4 5 = M 5 := by rw [aTurn_o _ _ _ (by decide) (by decide), mw_rn _ _ _ (by decide)]
    have eo : ∀ r, r ≠ 39 → r ≠ 34 → r ≠ 41 → r ≠ 40 → mw (aTurn (mw M 40 (M 41 4) i) i 4) 39 i (aTurn (mw M 40 (M 41 4) i) i 4 5 0) r = M r := fun r a b c e => by rw [mw_rn _ _ _ a, aTurn_o _ _ _ b c, mw_rn _ _ _ e]
    rw [eo 31 (by decide) (by decide) (by decide) (by decide), eo 32 (by decide) (by decide) (by decide) (by decide)]
    refine gV_cV (ok_noteOut (P := fun r M' => r = none ∧ M' = aLetOut M i) hf.1 hf.2 hp ?_ ⟨rfl, ?_⟩) mX1_noteOut_ok sX5_X1_noteOut rfl rfl rfl rfl rfl rfl ?_
    · rw [eo 29 (by decide) (by decide) (by decide) (by decide)]
      exact hla
    · rw [e5]
      rfl
    · rintro r M' ⟨rfl, rfl⟩
      exact gV_retv rfl trivial hP
/-- what a letter's numbers may be, as the machine compares them -/
theorem AI_letOut {S : Mem} {lo : Int → Int} {x i : Int} (h : AI S lo x) (i0 : 0 ≤ i) (i1 : i < S 4 0) (hs : S 34 i ≠ 4) : i < 400 ∧ 0 ≤ S 41 4 ∧ S 41 4 < 400 ∧ (0 ≤ S 34 i ∧ S 34 i ≤ 5) ∧ (0 ≤ S 31 i ∧ S 31 i < 16) ∧ rng (S 32 i) ∧ rng (S 29 (S 31 i)) := by
  obtain ⟨ha, hl, hb, hn, hh, hf, ht, ks, kh, kf, kl, hq, hi, ho⟩ := h
  have h1 := ks 4 (by decide) (by decide)
  have h2 := (ct_nn (fun j => decide (S 34 j = 4)) (S 4 0).toNat)
  have h3 : ct (fun j => decide (S 34 j = 4)) (S 4 0).toNat < ct (fun _ => true) (S 4 0).toNat := ct_lt (fun _ _ _ _ => rfl) i0 (by omega) (by simpa using hs) rfl
  have h4 := (ct_nn (fun _ => true) (S 4 0).toNat)
  have h5 := ha.2.2.1
  have h6 := ht i
  have h7 := ho.2.2.1 (S 31 i)
  unfold rng
  omega
theorem leave_loop {d : Nat} {M : Mem} {lo : Int → Int} {x l : Int} {P : PV → Mem → Prop} (h : AI M lo x) (hu : M 9 l = 1) (hlo : lo l < M 5 0 + M 8 l) {e : Int} {N : Nat} (he : e = M 16 l + N) (hN : (N : Int) ≤ M 17 l - M 16 l) (hP : P none (aLvK M l N)) :
    ∀ (n j : Nat) (Mj : Mem) (z : PV), j + n = N → Ex [16, 18] Mj (aLvK M l j) → Mj 16 = M 16 → Mj 18 = M 18 →
      gV mX5_leave (d + 1) P 40 [vR 5, vI l, vI (M 16 l), vI e, vI (M 16 l + j), z] [vI e, vI (M 16 l + j)] Mj
  | 0, j, Mj, z, hj, hE, e16, e18 => by
    obtain ⟨l0, lL, l4⟩ := AI_up h hu
    have hjN : j = N := by omega
    subst hjN
    have hq := (h.2.2.2.2.2.2.2.2.2.2.2.1 l l0 l4).1
    have h5 := h.1.2.2.1
    have h6 := (h.2.2.2.2.2.2.2.2.2.2.1 l l0 l4).1
    have h7 := ct_nn (fun j => decide (M 35 j = l)) (M 4 0).toNat
    refine gV_it rfl (by unfold rng; omega) (by omega) ?_
    repeat (refine gV_s rfl (by first | exact trivial | omega) ?_)
    refine gV_retv rfl trivial ?_
    have hm : mw (mw Mj 16 l e) 18 l (mw Mj 16 l e 18 l + (e - M 16 l)) = aLvK M l j := by
      refine mem_ext (fun r => ?_)
      by_cases a : r = 18
      · subst a
        rw [mw_rs, mw_rn _ _ _ (by decide), e18, aLvK_18, he]
        congr 1
        omega
      · by_cases b : r = 16
        · subst b
          rw [mw_rn _ _ _ (by decide), mw_rs, e16, aLvK_16, he]
        · rw [mw_rn _ _ _ a, mw_rn _ _ _ b]
          exact hE r (by simp [a, b])
    have hm2 : mw (mw Mj 16 l e) 18 l (mw Mj 16 l e 18 l + (e - M 16 l)) = _ := hm
    rw [hm2]
    exact hP
  | n + 1, j, Mj, z, hj, hE, e16, e18 => by
    obtain ⟨l0, lL, l4⟩ := AI_up h hu
    have hS := AI_lvK h hu hlo j (by omega)
    have hq := (h.2.2.2.2.2.2.2.2.2.2.2.1 l l0 l4).1
    have h5 := h.1.2.2.1
    have h6 := (h.2.2.2.2.2.2.2.2.2.2.1 l l0 l4).1
    have h7 := ct_nn (fun j => decide (M 35 j = l)) (M 4 0).toNat
    have hS16 : aLvK M l j 16 l = M 16 l + j := by rw [aLvK_16, up1_s]
    have hSo : ∀ r, r ≠ 37 → r ≠ 38 → r ≠ 34 → r ≠ 41 → r ≠ 16 → r ≠ 18 → aLvK M l j r = M r := fun r a b c d e f => aLvK_o M l a b c d e f j
    have hrow : Mj (9 + 2 + l.toNat) = aLvK M l j (11 + l.toNat) := hE (11 + l.toNat) (by simp; omega)
    obtain ⟨g1, g2, g3, g4⟩ := (hS.2.2.2.2.2.2.2.2.2.2.2.1 l l0 l4).2.1 (M 16 l + j) (by omega) (by rw [hSo 17 (by decide) (by decide) (by decide) (by decide) (by decide) (by decide)]; omega)
    have g5 := g1.2.1
    rw [hSo 4 (by decide) (by decide) (by decide) (by decide) (by decide) (by decide)] at g5
    have hb1 : 0 ≤ Mj (9 + 2 + l.toNat) (M 16 l + j) ∧ Mj (9 + 2 + l.toNat) (M 16 l + j) < 400 := by
      rw [hrow]
      exact ⟨g1.1, Int.lt_of_lt_of_le g5 h5.2⟩
    have hst : 0 ≤ Mj 34 (Mj (9 + 2 + l.toNat) (M 16 l + j)) ∧ Mj 34 (Mj (9 + 2 + l.toNat) (M 16 l + j)) ≤ 5 := by
      rw [hE 34 (by simp)]
      exact (hS.2.2.2.2.2.2.1 _).2.2.2.1
    refine gV_in rfl (by unfold rng; omega) (by omega) ?_
    repeat (refine gV_s rfl (by first | exact trivial | omega) ?_)
    refine gV_iald rfl (shp_row l0 l4) (by decide) ⟨by omega, by omega⟩ ?_
    generalize hi : Mj (9 + 2 + l.toNat) (M 16 l + j) = i at hb1 hst
    repeat (refine gV_s rfl (by first | exact trivial | omega) ?_)
    refine gV_cV (ok_turn (P := fun r M' => r = none ∧ M' = aTurn (mw (mw Mj 37 i (Mj 5 0)) 38 i (mw Mj 37 i (Mj 5 0) 5 0 + mw Mj 37 i (Mj 5 0) 8 l)) i 2) hb1.1 hb1.2 (by omega) ?_ ⟨rfl, rfl⟩) mX2_turn_ok sX5_X2_turn rfl rfl rfl rfl rfl rfl ?_
    · rw [mw_rn _ _ _ (by decide), mw_rn _ _ _ (by decide)]
      exact hst
    · rintro r M' ⟨rfl, rfl⟩
      have ih := leave_loop (d := d) h hu hlo he hN hP n (j + 1) (aTurn (mw (mw Mj 37 i (Mj 5 0)) 38 i (mw Mj 37 i (Mj 5 0) 5 0 + mw Mj 37 i (Mj 5 0) 8 l)) i 2) (vI i) (by omega) ?_ ?_ ?_
      · have e9 : M 16 l + ((j + 1 : Nat) : Int) = M 16 l + j + 1 := by push_cast; omega
        rw [e9] at ih
        repeat (refine gV_s rfl (by first | exact trivial | omega) ?_)
        exact ih
      · have hqi : qr (aLvK M l j) l (aLvK M l j 16 l) = i := by
          rw [hS16, ← hi, hrow]
        rw [aLvK]
        unfold aLeave1
        rw [hqi]
        refine Ex.skip (Ex.skip (Ex.turn (Ex.w (Ex.w hE rfl ?_) rfl ?_) (by decide) (by decide) rfl) (by decide)) (by decide)
        · rw [hE 5 (by decide)]
        · rw [mw_rn _ _ _ (by decide), mw_rn _ _ _ (by decide), hE 5 (by decide), hE 8 (by decide)]
      · rw [aTurn_o _ _ _ (by decide) (by decide), mw_rn _ _ _ (by decide), mw_rn _ _ _ (by decide)]
        exact e16
      · rw [aTurn_o _ _ _ (by decide) (by decide), mw_rn _ _ _ (by decide), mw_rn _ _ _ (by decide)]
        exact e18
theorem ok_leave {d : Nat} {M : Mem} {lo : Int → Int} {x l : Int} {P : PV → Mem → Prop} (h : AI M lo x) (hu : M 9 l = 1) (hlo : lo l < M 5 0) (hP : P none (aLvK M l (lvN M l))) : gOk mX5_leave (d + 1) [vR 5, vI l] M P := by
  obtain ⟨l0, lL, l4⟩ := AI_up h hu
  have hq := (h.2.2.2.2.2.2.2.2.2.2.2.1 l l0 l4).1
  have h5 := h.1.2.2.1
  have h6 := (h.2.2.2.2.2.2.2.2.2.2.1 l l0 l4).1
  have h7 := ct_nn (fun j => decide (M 35 j = l)) (M 4 0).toNat
  have h8 := h.2.1.2.2 l
  refine gOk_of mX5_leave_ok (by simp) (Nat.le_of_ble_eq_true rfl) ?_
  repeat (refine gV_s rfl (by first | exact trivial | omega) ?_)
  refine gV_min rfl rfl (by unfold rng; omega) (by unfold rng; omega) rfl ?_
  repeat (refine gV_s rfl (by first | exact trivial | omega) ?_)
  have := leave_loop (d := d) (P := P) h hu (by omega) (N := lvN M l) (e := if M 17 l < M 16 l + M 7 l then M 17 l else M 16 l + M 7 l) (by unfold lvN; split <;> omega) (lvN_le h l0 l4) hP (lvN M l) 0 M none (by omega) Ex.rf rfl rfl
  rw [show M 16 l + ((0 : Nat) : Int) = M 16 l by omega] at this
  exact this

theorem arrive_loop {d : Nat} {l e : Int} {P : PV → Mem → Prop} {x : Int} {lo : Int → Int} (l0 : 0 ≤ l) (l4 : l < 4) :
    ∀ (n : Nat) (S Mj : Mem) (z : PV), AI S lo x → e = S 16 l → (S 16 l - S 15 l).toNat = n → Ex [15] Mj S → (∀ j, j ≠ l → Mj 15 j = S 15 j) → P none (aArF l n S) →
      gV mX5_arrive (d + 2) P 22 [vR 5, vI l, vI e, vI (S 15 l), z] [vI e, vI (S 15 l)] Mj
  | n, S, Mj, z, h, he, hn, hE, h15, hP => by
    have hq := (h.2.2.2.2.2.2.2.2.2.2.2.1 l l0 l4).1
    have h5 := h.1.2.2.1
    have h6 := (h.2.2.2.2.2.2.2.2.2.2.1 l l0 l4).1
    have h7 := ct_nn (fun j => decide (S 35 j = l)) (S 4 0).toNat
    have htm := h.1.2.2.2.1
    have hend : ¬ (S 15 l < S 16 l ∧ S 38 (qr S l (S 15 l)) = S 5 0) → gV mX5_arrive (d + 2) P 96 [vR 5, vI l, vI e, vI (S 15 l), z] [] Mj := by
      intro hc
      have eS : aArF l n S = S := by
        cases n with
        | zero => rfl
        | succ n => rw [aArF, if_neg hc]
      rw [eS] at hP
      repeat (refine gV_s rfl (by first | exact trivial | omega) ?_)
      refine gV_retv rfl trivial ?_
      have hm : mw Mj 15 l (S 15 l) = S := by
        refine mem_ext (fun r => ?_)
        by_cases a : r = 15
        · subst a
          rw [mw_rs]
          funext j
          rw [up1_e]
          split
          · rename_i q; rw [q]
          · rename_i q; exact h15 j q
        · rw [mw_rn _ _ _ a]
          exact hE r (by simp [a])
      have hm2 : mw Mj 15 l (S 15 l) = _ := hm
      rw [hm2]
      exact hP
    refine gV_i rfl (by unfold rng; omega) (fun h1 => ?_) (fun h1 => ?_)
    · exact hend (by omega)
    · have hlt : S 15 l < S 16 l := by omega
      obtain ⟨g1, g2, g3, g4⟩ := (h.2.2.2.2.2.2.2.2.2.2.2.1 l l0 l4).2.1 (S 15 l) (by omega) (by omega)
      have hst2 := (g3 (Int.le_refl _) hlt).1
      have hrow : Mj (9 + 2 + l.toNat) = S (11 + l.toNat) := hE (11 + l.toNat) (by simp; omega)
      have hgi : 0 ≤ S (11 + l.toNat) (S 15 l) ∧ S (11 + l.toNat) (S 15 l) < S 4 0 := ⟨g1.1, g1.2.1⟩
      repeat (refine gV_s rfl (by first | exact trivial | omega) ?_)
      refine gV_iald rfl (shp_row l0 l4) (by decide) ⟨by omega, by omega⟩ ?_
      rw [hrow]
      have hb1 : 0 ≤ S (11 + l.toNat) (S 15 l) ∧ S (11 + l.toNat) (S 15 l) < 400 := by omega
      repeat (refine gV_s rfl (by first | exact trivial | omega) ?_)
      have har := (h.2.2.2.2.2.2.1 (S (11 + l.toNat) (S 15 l))).2.2.2.2
      rw [hE 38 (by decide), hE 5 (by decide)]
      refine gV_i rfl (by unfold rng; omega) (fun h2 => ?_) (fun h2 => ?_)
      · have hc : S 15 l < S 16 l ∧ S 38 (qr S l (S 15 l)) = S 5 0 := ⟨hlt, h2⟩
        obtain ⟨n, rfl⟩ : ∃ k, n = k + 1 := ⟨n - 1, by omega⟩
        rw [aArF, if_pos hc] at hP
        have hA := AI_arr1 h l0 l4 hlt
        have e15 : aArr1 S l 15 l = S 15 l + 1 := by rw [aArr1_15, up1_s]
        have e16 : aArr1 S l 16 = S 16 := aArr1_o _ _ (by decide) (by decide) (by decide) (by decide) (by decide) (by decide) (by decide) (by decide)
        obtain ⟨i, hi⟩ : ∃ i, S (11 + l.toNat) (S 15 l) = i := ⟨_, rfl⟩
        have hi2 : qr S l (S 15 l) = i := hi
        have ih := fun Mk hk1 hk2 => arrive_loop (d := d) (e := e) l0 l4 n (aArr1 S l) Mk (vI i) hA (by rw [e16]; exact he) (by rw [e15, e16]; omega) hk1 hk2 hP
        rw [e15] at ih
        rw [hi] at hb1 hgi
        repeat (refine gV_s rfl (by first | exact trivial | omega) ?_)
        refine gV_iald rfl (shp_row l0 l4) (by decide) ⟨by omega, by omega⟩ ?_
        rw [hrow, hi]
        repeat (refine gV_s rfl (by first | exact trivial | omega) ?_)
        have hnum := h.1.2.2.2.2.1
        rw [hE 5 (by decide)]
        have hst : 0 ≤ Mj 34 i ∧ Mj 34 i ≤ 5 := by
          rw [hE 34 (by decide)]
          exact (h.2.2.2.2.2.2.1 _).2.2.2.1
        rw [hi2] at hst2
        refine gV_i rfl (by unfold rng; omega) (fun h3 => ?_) (fun h3 => ?_)
        · obtain ⟨w1, w2, w3, w4, w5, w6, w7⟩ := AI_letOut h hgi.1 hgi.2 (by omega)
          repeat (refine gV_s rfl (by first | exact trivial | omega) ?_)
          refine gV_cV (ok_letOut (d := d) (P := fun r M' => r = none ∧ M' = aLetOut Mj i) hb1.1 hb1.2 (by rw [hE 41 (by decide)]; exact w2) (by rw [hE 41 (by decide)]; exact w3) hst (by rw [hE 31 (by decide)]; exact w5) (by rw [hE 32 (by decide)]; exact w6) (by rw [hE 31 (by decide), hE 29 (by decide)]; exact w7) ⟨rfl, rfl⟩) mX5_letOut_ok sX5_X5_letOut rfl rfl rfl rfl rfl rfl ?_
          rintro r M' ⟨rfl, rfl⟩
          repeat (refine gV_s rfl (by first | exact trivial | omega) ?_)
          refine ih _ ?_ ?_
          · unfold aArr1
            rw [if_pos h3, hi2]
            exact Ex.skip (Ex.out hE (by simp) rfl) (by decide)
          · intro j hj
            rw [aLetOut_o _ _ (by decide) (by decide) (by decide) (by decide) (by decide) (by decide) (by decide), aArr1_15, up1_n _ _ hj]
            exact h15 j hj
        · repeat (refine gV_s rfl (by first | exact trivial | omega) ?_)
          refine gV_cV (ok_turn (d := d + 1) (P := fun r M' => r = none ∧ M' = aTurn Mj i 3) hb1.1 hb1.2 (by omega) hst ⟨rfl, rfl⟩) mX2_turn_ok sX5_X2_turn rfl rfl rfl rfl rfl rfl ?_
          rintro r M' ⟨rfl, rfl⟩
          repeat (refine gV_s rfl (by first | exact trivial | omega) ?_)
          refine ih _ ?_ ?_
          · unfold aArr1
            rw [if_neg h3, hi2]
            exact Ex.skip (Ex.turn hE (by decide) (by decide) rfl) (by decide)
          · intro j hj
            rw [aTurn_o _ _ _ (by decide) (by decide), aArr1_15, up1_n _ _ hj]
            exact h15 j hj
      · exact hend (fun q => h2 q.2)
theorem ok_arrive {d : Nat} {M : Mem} {lo : Int → Int} {x l : Int} {P : PV → Mem → Prop} (h : AI M lo x) (l0 : 0 ≤ l) (l4 : l < 4) (hP : P none (aAr M l)) : gOk mX5_arrive (d + 2) [vR 5, vI l] M P := by
  refine gOk_of mX5_arrive_ok (by simp) (Nat.le_of_ble_eq_true rfl) ?_
  repeat (refine gV_s rfl (by first | exact trivial | omega) ?_)
  exact arrive_loop l0 l4 _ M M none h rfl rfl Ex.rf (fun _ _ => rfl) hP
theorem bl_loop {d : Nat} {M : Mem} {P : PV → Mem → Prop} (kk : ∀ z : Int, gV mX5_letOutInOrder (d + 2) P 21 [vR 5, vI z, none, none] [] (bl0 M 16)) : ∀ (n f : Nat), f + n = 16 → gV mX5_letOutInOrder (d + 2) P 5 [vR 5, vI f, none, none] [vI 16, vI f] (bl0 M f)
  | 0, f, h => by
    have hf : f = 16 := by omega
    subst hf
    refine gV_it rfl (by unfold rng; omega) (show (16 : Int) ≤ _ by omega) ?_
    exact kk _
  | n + 1, f, h => by
    have ih := bl_loop kk n (f + 1) (by omega)
    refine gV_in rfl (by unfold rng; omega) (show ¬ (16 : Int) ≤ _ by omega) ?_
    repeat (refine gV_s rfl (by first | exact trivial | omega) ?_)
    exact ih
theorem out_loop {d : Nat} {S : Mem} {lo : Int → Int} {x : Int} {P : PV → Mem → Prop} (h : AI S lo x) (hP : P none (aOutC S (S 4 0).toNat)) : ∀ (n k : Nat) (z w : PV), (k : Int) + n = S 4 0 → (∀ f, 0 ≤ f → f < 16 → aOutC S k 42 f = 0 ∨ aOutC S k 42 f = 1) →
    gV mX5_letOutInOrder (d + 2) P 31 [vR 5, vI k, z, w] [vI (S 4 0), vI k] (aOutC S k)
  | 0, k, z, w, hk, _ => by
    have h4 := h.1.2.2.1
    have e : k = (S 4 0).toNat := by omega
    subst e
    refine gV_it rfl (by unfold rng; omega) (by omega) ?_
    repeat (refine gV_s rfl (by first | exact trivial | omega) ?_)
    exact gV_retv rfl trivial hP
  | n + 1, k, z, w, hk, hb => by
    have h4 := h.1.2.2.1
    have hS := AI_outC h k (by omega)
    have eo : ∀ j r, r ≠ 42 → r ≠ 27 → r ≠ 29 → r ≠ 30 → r ≠ 39 → r ≠ 34 → r ≠ 41 → r ≠ 40 → aOutC S j r = S r := fun j r a1 a2 a3 a4 a5 a6 a7 a8 => aOutC_o S a1 a2 a3 a4 a5 a6 a7 a8 j
    have ih := fun z w hb => out_loop (d := d) h hP n (k + 1) z w (by push_cast; omega) hb
    have hT := hS.2.2.2.2.2.2.1 k
    have hbk := hb (aOutC S k 31 k) hT.1.1 hT.1.2.1
    have step : aOutC S (k + 1) = if aOutC S k 34 k = 3 ∧ aOutC S k 42 (aOutC S k 31 k) = 0 then aLetOut (aOutC S k) k else if aOutC S k 34 k ≠ 4 ∧ aOutC S k 34 k ≠ 5 then mw (aOutC S k) 42 (aOutC S k 31 k) 1 else aOutC S k := rfl
    have e4' : aOutC S (k + 1) 4 0 = S 4 0 := by rw [eo _ 4 (by decide) (by decide) (by decide) (by decide) (by decide) (by decide) (by decide) (by decide)]
    have e4 : aOutC S k 4 0 = S 4 0 := by rw [eo _ 4 (by decide) (by decide) (by decide) (by decide) (by decide) (by decide) (by decide) (by decide)]
    rw [step] at ih e4'
    refine gV_in rfl (by unfold rng; omega) (by omega) ?_
    repeat (refine gV_s rfl (by first | exact trivial | omega) ?_)
    refine gV_i rfl (by unfold rng; omega) (fun h1 => ?_) (fun h1 => ?_)
    · repeat (refine gV_s rfl (by first | exact trivial | omega) ?_)
      refine gV_i rfl (by unfold rng; omega) (fun h2 => ?_) (fun h2 => ?_)
      · obtain ⟨w1, w2, w3, w4, w5, w6, w7⟩ := AI_letOut (i := k) hS (by omega) (by omega) (by omega)
        rw [if_pos ⟨h1, h2⟩] at ih e4'
        repeat (refine gV_s rfl (by first | exact trivial | omega) ?_)
        refine gV_cV (ok_letOut (d := d) (P := fun r M' => r = none ∧ M' = aLetOut (aOutC S k) k) (by omega) w1 w2 w3 w4 w5 w6 w7 ⟨rfl, rfl⟩) mX5_letOut_ok sX5_X5_letOut rfl rfl rfl rfl rfl rfl ?_
        rintro r M' ⟨rfl, rfl⟩
        repeat (refine gV_s rfl (by first | exact trivial | omega) ?_)
        rw [e4']
        refine ih _ _ (fun f f0 f1 => ?_)
        rw [aLetOut_o _ _ (by decide) (by decide) (by decide) (by decide) (by decide) (by decide) (by decide)]
        exact hb f f0 f1
      · rw [if_neg (fun q => h2 q.2), if_pos (by omega)] at ih e4'
        repeat (refine gV_s rfl (by first | exact trivial | omega) ?_)
        refine gV_in rfl (by unfold rng; omega) (by omega) ?_
        repeat (refine gV_s rfl (by first | exact trivial | omega) ?_)
        refine gV_in rfl (by unfold rng; omega) (by omega) ?_
        repeat (refine gV_s rfl (by first | exact trivial | omega) ?_)
        rw [e4']
        refine ih _ _ (fun f f0 f1 => ?_)
        rw [mw_rs, up1_e]
        split
        · exact Or.inr rfl
        · exact hb f f0 f1
    · repeat (refine gV_s rfl (by first | exact trivial | omega) ?_)
      rw [if_neg (fun q => h1 q.1)] at ih e4'
      refine gV_i rfl (by unfold rng; omega) (fun h2 => ?_) (fun h2 => ?_)
      · rw [if_neg (by omega)] at ih e4'
        repeat (refine gV_s rfl (by first | exact trivial | omega) ?_)
        rw [e4']
        exact ih _ _ hb
      · repeat (refine gV_s rfl (by first | exact trivial | omega) ?_)
        refine gV_i rfl (by unfold rng; omega) (fun h3 => ?_) (fun h3 => ?_)
        · rw [if_neg (by omega)] at ih e4'
          repeat (refine gV_s rfl (by first | exact trivial | omega) ?_)
          rw [e4']
          exact ih _ _ hb
        · rw [if_pos (by omega)] at ih e4'
          repeat (refine gV_s rfl (by first | exact trivial | omega) ?_)
          rw [e4']
          refine ih _ _ (fun f f0 f1 => ?_)
          rw [mw_rs, up1_e]
          split
          · exact Or.inr rfl
          · exact hb f f0 f1
end
section
/-! The class's Traffic, walked: coming out, letting go, settling, a tick. -/
theorem ok_letOutInOrder {d : Nat} {M : Mem} {lo : Int → Int} {x : Int} {P : PV → Mem → Prop} (h : AI M lo x) (hP : P none (aOutC (bl0 M 16) (M 4 0).toNat)) : gOk mX5_letOutInOrder (d + 2) [vR 5] M P := by
  have hb : AI (bl0 M 16) lo x := AI_scr h (fun r hr => bl0_o M hr 16)
  have e4 : bl0 M 16 4 = M 4 := bl0_o M (by decide) 16
  have h4 := h.1.2.2.1
  refine gOk_of mX5_letOutInOrder_ok (by simp) (Nat.le_of_ble_eq_true rfl) ?_
  repeat (refine gV_s rfl (by first | exact trivial | omega) ?_)
  refine bl_loop (M := M) (fun z => ?_) 16 0 rfl
  repeat (refine gV_s rfl (by first | exact trivial | omega) ?_)
  have := out_loop (d := d) (P := P) hb (by rw [e4]; exact hP) (bl0 M 16 4 0).toNat 0 none none (by rw [e4]; omega) (fun f f0 f1 => Or.inl (bl0_42 M 16 f f0 (by omega)))
  exact this
theorem mayk_mono {S : Mem} {b l : Int} {k : Nat} : ∀ {n : Nat}, k ≤ n → mayk S b l n = true → mayk S b l k = true
  | 0, h, hm => by
    have : k = 0 := by omega
    subst this
    exact hm
  | n + 1, h, hm => by
    by_cases e : k = n + 1
    · subst e; exact hm
    · have : mayk S b l n = true := by
        simp only [mayk, Bool.and_eq_true] at hm
        exact hm.1
      exact mayk_mono (by omega) this
theorem mayk_all {S : Mem} {b l : Int} : ∀ {n : Nat}, (∀ i : Int, 0 ≤ i → i < n → ¬ (S 34 i = 1) ∧ ¬ (S 34 i = 2)) → mayk S b l n = true
  | 0, _ => rfl
  | n + 1, h => by
    have h1 := mayk_all (S := S) (b := b) (l := l) (n := n) (fun i a c => h i a (by omega))
    have h2 := h n (by omega) (by omega)
    simp [mayk, h1, h2]
theorem may_loop {d : Nat} {M : Mem} {lo : Int → Int} {x b l : Int} (h : AI M lo x) (hb : rng b) (l0 : 0 ≤ l) (l4 : l < 4) : ∀ (n k : Nat), (k : Int) + n = M 4 0 → mayk M b l k = true →
    gV mX5_mayReach (d + 1) (yn (may M b l = true) M) 41 [vR 5, vI b, vI l, vI (M 5 0 + 1 + M 8 l), vI k] [vI (M 4 0), vI k] M
  | 0, k, hk, hm => by
    have h4 := h.1.2.2.1
    have e : k = (M 4 0).toNat := by omega
    refine gV_it rfl (by unfold rng; omega) (by omega) ?_
    repeat (refine gV_s rfl (by first | exact trivial | omega) ?_)
    exact gV_ret rfl (Or.inr rfl) ⟨rfl, Or.inl ⟨by rw [e] at hm; exact hm, rfl⟩⟩
  | n + 1, k, hk, hm => by
    have h4 := h.1.2.2.1
    have htm := h.1.2.2.2.1
    have hdl := h.2.1.2.2 l
    have hT := h.2.2.2.2.2.2.1 k
    have ih := may_loop (d := d) h hb l0 l4 n (k + 1) (by push_cast; omega)
    have bad : mayk M b l (k + 1) = false → ¬ may M b l = true := fun q1 q2 => by
      have := mayk_mono (k := k + 1) (n := (M 4 0).toNat) (by omega) q2
      rw [q1] at this
      cases this
    unfold rng at hb
    refine gV_in rfl (by unfold rng; omega) (by omega) ?_
    repeat (refine gV_s rfl (by first | exact trivial | omega) ?_)
    refine gV_i rfl (by unfold rng; omega) (fun h1 => ?_) (fun h1 => ?_)
    · repeat (refine gV_s rfl (by first | exact trivial | omega) ?_)
      refine gV_i rfl (by unfold rng; omega) (fun h2 => ?_) (fun h2 => ?_)
      · repeat (refine gV_s rfl (by first | exact trivial | omega) ?_)
        exact gV_ret rfl (Or.inl rfl) ⟨rfl, Or.inr ⟨bad (by simp [mayk, h1, h2]), rfl⟩⟩
      · repeat (refine gV_s rfl (by first | exact trivial | omega) ?_)
        refine gV_i rfl (by unfold rng; omega) (fun h3 => ?_) (fun h3 => ?_)
        · repeat (refine gV_s rfl (by first | exact trivial | omega) ?_)
          refine gV_i rfl (by unfold rng; omega) (fun h5 => ?_) (fun h5 => ?_)
          · repeat (refine gV_s rfl (by first | exact trivial | omega) ?_)
            exact ih (by simp only [mayk, hm, Bool.true_and]; simp [h2, show ¬ (M 5 0 + 1 + M 8 l ≤ M 38 k) by omega])
          · repeat (refine gV_s rfl (by first | exact trivial | omega) ?_)
            exact gV_ret rfl (Or.inl rfl) ⟨rfl, Or.inr ⟨bad (by simp [mayk, h1, h3, show M 5 0 + 1 + M 8 l ≤ M 38 k by omega]), rfl⟩⟩
        · repeat (refine gV_s rfl (by first | exact trivial | omega) ?_)
          exact ih (by simp [mayk, hm, h2, h3])
    · repeat (refine gV_s rfl (by first | exact trivial | omega) ?_)
      exact ih (by simp [mayk, hm, h1])
theorem ok_mayReach {d : Nat} {M : Mem} {lo : Int → Int} {x b l : Int} (h : AI M lo x) (hb : rng b) (l0 : 0 ≤ l) (l4 : l < 4) : gOk mX5_mayReach (d + 1) [vR 5, vI b, vI l] M (yn (may M b l = true) M) := by
  have h4 := h.1.2.2.1
  have ks := h.2.2.2.2.2.2.2.1
  have k1 := ks 1 (by decide) (by decide)
  have k2 := ks 2 (by decide) (by decide)
  have k3 := ks 3 (by decide) (by decide)
  have n1 := ct_nn (fun j => decide (M 34 j = 1)) (M 4 0).toNat
  have n2 := ct_nn (fun j => decide (M 34 j = 2)) (M 4 0).toNat
  have n3 := ct_nn (fun j => decide (M 34 j = 3)) (M 4 0).toNat
  refine gOk_of mX5_mayReach_ok (by simp) (Nat.le_of_ble_eq_true rfl) ?_
  repeat (refine gV_s rfl (by first | exact trivial | omega) ?_)
  refine gV_cV (ok_underway (M := M) (by unfold rng; omega)) mX2_isAnyUnderway_ok sX5_X2_isAnyUnderway rfl rfl rfl rfl rfl rfl ?_
  rintro r M' ⟨rfl, ⟨h2, rfl⟩ | ⟨h2, rfl⟩⟩
  · refine gV_in rfl (by unfold rng; omega) (by omega) ?_
    repeat (refine gV_s rfl (by first | exact trivial | omega) ?_)
    exact may_loop h hb l0 l4 (M' 4 0).toNat 0 (by omega) rfl
  · refine gV_it rfl (by unfold rng; omega) rfl ?_
    repeat (refine gV_s rfl (by first | exact trivial | omega) ?_)
    refine gV_ret rfl (Or.inr rfl) ⟨rfl, Or.inl ⟨mayk_all (fun i i0 i1 => ?_), rfl⟩⟩
    have a1 := ct_zero (p := fun j => decide (M' 34 j = 1)) (n := (M' 4 0).toNat) (by omega) i i0 i1
    have a2 := ct_zero (p := fun j => decide (M' 34 j = 2)) (n := (M' 4 0).toNat) (by omega) i i0 i1
    simp at a1 a2
    exact ⟨a1, a2⟩
/-! letting go -/
theorem Ex.enqH {X : List Nat} {M S : Mem} (h : Ex X M S) (hX : ∀ r ∈ X, r = 19 ∨ r = 20 ∨ r = 21 ∨ r = 23) {i l : Int} : Ex X (aEnqH M i l) (aEnqH S i l) := by
  have k : ∀ r, r ≠ 19 → r ≠ 20 → r ≠ 21 → r ≠ 23 → r ∉ X := fun r a b c d hq => by have := hX r hq; omega
  unfold aEnqH aEnq
  rw [h 17 (k _ (by decide) (by decide) (by decide) (by decide)), h 22 (k _ (by decide) (by decide) (by decide) (by decide)), h 33 (k _ (by decide) (by decide) (by decide) (by decide))]
  exact Ex.w (Ex.turn (Ex.w (Ex.w (Ex.w h rfl rfl) rfl rfl) rfl rfl) (k _ (by decide) (by decide) (by decide) (by decide)) (k _ (by decide) (by decide) (by decide) (by decide)) rfl) rfl rfl
theorem Ex.lets {X : List Nat} {M S : Mem} (h : Ex X M S) (hX : ∀ r ∈ X, r = 19 ∨ r = 20 ∨ r = 21 ∨ r = 23) {b l : Int} : ∀ k, Ex X (aLets M b l k) (aLets S b l k)
  | 0 => h
  | k + 1 => by
    have ih := Ex.lets h hX (b := b) (l := l) k
    have k : ∀ r, r ≠ 19 → r ≠ 20 → r ≠ 21 → r ≠ 23 → r ∉ X := fun r a b c d hq => by have := hX r hq; omega
    unfold aLets
    dsimp only
    rw [ih 34 (k _ (by decide) (by decide) (by decide) (by decide)), ih 33 (k _ (by decide) (by decide) (by decide) (by decide))]
    split
    · exact Ex.enqH ih hX
    · exact ih
theorem aEnqH_22 (S : Mem) (i : Int) {l : Int} (hl : l < 4) : aEnqH S i l 22 = up1 (S 22) (S 33 i) (S 22 (S 33 i) - 1) := by
  unfold aEnqH
  rw [mw_rs, aEnq_o _ _ _ (by decide) (by decide) (by decide) (by decide) (by omega)]
theorem aLets_22 (S : Mem) (b : Int) {l : Int} (hl : l < 4) {j : Int} (hj : j ≠ b) : ∀ k, aLets S b l k 22 j = S 22 j
  | 0 => rfl
  | k + 1 => by
    unfold aLets
    dsimp only
    split
    · rename_i hc
      rw [aEnqH_22 _ _ hl, hc.2, up1_n _ _ hj, aLets_22 S b hl hj k]
    · exact aLets_22 S b hl hj k
/-- behind it the bucket's count is 0 -/
theorem lets_22 {S : Mem} {lo : Int → Int} {x b l : Int} (h : AI S lo x) (hu : S 9 l = 1) (b0 : 0 ≤ b) (b8 : b < 8) : aLets S b l (S 4 0).toNat 22 b = 0 := by
  obtain ⟨l0, lL, l4⟩ := AI_up h hu
  have h4 := h.1.2.2.1
  have h1 := AI_lets (b := b) h hu (S 4 0).toNat (by omega)
  have kh := h1.2.2.2.2.2.2.2.2.1 b b0 b8
  have e4 : aLets S b l (S 4 0).toNat 4 = S 4 := aLets_o S b l (by decide) (by decide) (by decide) (by decide) (by decide) (by omega) l4 _
  have e33 : aLets S b l (S 4 0).toNat 33 = S 33 := aLets_o S b l (by decide) (by decide) (by decide) (by decide) (by decide) (by omega) l4 _
  rw [kh, e4, e33]
  refine ct_none (fun i i0 i1 => ?_)
  have := lets_free (b := b) l4 h4.1 i i0 (by omega)
  simp only [decide_eq_false_iff_not]
  exact fun q => this q.1 q.2
theorem rel_loop {d : Nat} {S M1 : Mem} {lo : Int → Int} {x b l hd : Int} {P : PV → Mem → Prop} (h : AI S lo x) (hE1 : Ex [19, 20, 21, 23] M1 S) (hu : S 9 l = 1) (b0 : 0 ≤ b) (b8 : b < 8) (hP : P (vI hd) (aLets M1 b l (S 4 0).toNat)) :
    ∀ (n k : Nat) (Mk : Mem), (k : Int) + n = S 4 0 → Ex [22] Mk (aLets M1 b l k) → (∀ j, j ≠ b → Mk 22 j = M1 22 j) →
      gV mX5_release (d + 2) P 54 [vR 5, vI b, vI l, vI hd, vI k] [vI (S 4 0), vI k] Mk
  | 0, k, Mk, hk, hE, h22 => by
    obtain ⟨l0, lL, l4⟩ := AI_up h hu
    have h4 := h.1.2.2.1
    have e : k = (S 4 0).toNat := by omega
    refine gV_it rfl (by unfold rng; omega) (by omega) ?_
    repeat (refine gV_s rfl (by first | exact trivial | omega) ?_)
    refine gV_ret rfl trivial ?_
    have hm : mw Mk 22 b 0 = aLets M1 b l (S 4 0).toNat := by
      refine mem_ext (fun r => ?_)
      by_cases a : r = 22
      · subst a
        rw [mw_rs]
        funext j
        rw [up1_e]
        split
        · rename_i q
          subst q
          rw [Ex.lets hE1 (by simp) _ 22 (by decide)]
          exact (lets_22 h hu b0 b8).symm
        · rename_i q
          rw [h22 j q, aLets_22 M1 b l4 q]
      · rw [mw_rn _ _ _ a, hE r (by simp [a]), e]
    rw [hm]
    exact hP
  | n + 1, k, Mk, hk, hE, h22 => by
    obtain ⟨l0, lL, l4⟩ := AI_up h hu
    have h4 := h.1.2.2.1
    have hS := AI_lets (b := b) h hu k (by omega)
    have hEE := Ex.lets hE1 (by simp) (b := b) (l := l) k
    have eS : ∀ r, r ≠ 22 → r ≠ 19 → r ≠ 20 → r ≠ 21 → r ≠ 23 → Mk r = aLets S b l k r := fun r a1 a2 a3 a4 a5 => by
      rw [hE r (by simp [a1]), hEE r (by simp [a2, a3, a4, a5])]
    have eSo : ∀ r, r ≠ 22 → r ≠ 17 → r ≠ 34 → r ≠ 35 → r ≠ 41 → (r < 11 ∨ 15 ≤ r) → aLets S b l k r = S r := fun r a1 a2 a3 a4 a5 a6 => aLets_o S b l a1 a2 a3 a4 a5 a6 l4 k
    have hT := hS.2.2.2.2.2.2.1 k
    have hT2 := h.2.2.2.2.2.2.1 k
    have e4 : Mk 4 0 = S 4 0 := by rw [eS 4 (by decide) (by decide) (by decide) (by decide) (by decide), eSo 4 (by decide) (by decide) (by decide) (by decide) (by decide) (by omega)]
    have e33 : Mk 33 = S 33 := by rw [eS 33 (by decide) (by decide) (by decide) (by decide) (by decide), eSo 33 (by decide) (by decide) (by decide) (by decide) (by decide) (by omega)]
    have e34 : Mk 34 = aLets S b l k 34 := eS 34 (by decide) (by decide) (by decide) (by decide) (by decide)
    have e34' : Mk 34 = aLets M1 b l k 34 := hE 34 (by decide)
    have e33' : Mk 33 = aLets M1 b l k 33 := hE 33 (by decide)
    have step : aLets M1 b l (k + 1) = if aLets M1 b l k 34 k = 0 ∧ aLets M1 b l k 33 k = b then aEnqH (aLets M1 b l k) k l else aLets M1 b l k := rfl
    have ih := fun Mk' hE' h22' => rel_loop (d := d) h hE1 hu b0 b8 hP n (k + 1) Mk' (by push_cast; omega) hE' h22'
    rw [step, ← e34', ← e33'] at ih
    have hr34 : 0 ≤ Mk 34 k ∧ Mk 34 k ≤ 5 := by rw [e34]; exact hT.2.2.2.1
    have hr33 : 0 ≤ Mk 33 k ∧ Mk 33 k < 8 := by rw [e33]; exact hT2.2.2.1
    refine gV_in rfl (by unfold rng; omega) (by omega) ?_
    repeat (refine gV_s rfl (by first | exact trivial | omega) ?_)
    refine gV_i rfl (by unfold rng; omega) (fun h1 => ?_) (fun h1 => ?_)
    · repeat (refine gV_s rfl (by first | exact trivial | omega) ?_)
      refine gV_i rfl (by unfold rng; omega) (fun h2 => ?_) (fun h2 => ?_)
      · rw [if_pos ⟨h1, h2⟩] at ih
        have e17 : Mk 17 l = aLets S b l k 17 l := by rw [eS 17 (by decide) (by decide) (by decide) (by decide) (by decide)]
        have hq := (hS.2.2.2.2.2.2.2.2.2.2.2.1 l l0 l4).1
        have hkl := (hS.2.2.2.2.2.2.2.2.2.2.1 l l0 l4).1
        have hlk : aLets S b l k 35 k = -6 := by
          rcases hS.2.2.2.2.2.2.2.2.2.2.2.2.1 k (by omega) (by rw [eSo 4 (by decide) (by decide) (by decide) (by decide) (by decide) (by omega)]; omega) with q | q
          · exact q.1
          · rw [← e34, h1] at q; omega
        have hlt : ct (fun j => decide (aLets S b l k 35 j = l)) (aLets S b l k 4 0).toNat < ct (fun _ => true) (aLets S b l k 4 0).toNat := ct_lt (i := k) (fun _ _ _ _ => rfl) (by omega) (by rw [eSo 4 (by decide) (by decide) (by decide) (by decide) (by decide) (by omega)]; omega) (by rw [hlk]; simp; omega) rfl
        have hnn := ct_nn (fun _ => true) (aLets S b l k 4 0).toNat
        rw [eSo 4 (by decide) (by decide) (by decide) (by decide) (by decide) (by omega)] at hlt hnn hkl
        repeat (refine gV_s rfl (by first | exact trivial | omega) ?_)
        refine gV_cV (ok_enqueue (d := d) (P := fun r M' => r = none ∧ M' = aEnq Mk k l) (by omega) (by omega) l0 l4 (by omega) (by omega) hr34 ⟨rfl, rfl⟩) mX5_enqueue_ok sX5_X5_enqueue rfl rfl rfl rfl rfl rfl ?_
        rintro r M' ⟨rfl, rfl⟩
        repeat (refine gV_s rfl (by first | exact trivial | omega) ?_)
        have e4' : aEnq Mk k l 4 0 = S 4 0 := by rw [aEnq_o _ _ _ (by decide) (by decide) (by decide) (by decide) (by omega), e4]
        rw [e4']
        refine ih _ ?_ ?_
        · unfold aEnqH
          refine Ex.skip ?_ (by decide)
          unfold aEnq
          rw [hE 17 (by decide)]
          exact Ex.turn (Ex.w (Ex.w (Ex.w hE rfl rfl) rfl rfl) rfl rfl) (by decide) (by decide) rfl
        · intro j hj
          rw [aEnq_o _ _ _ (by decide) (by decide) (by decide) (by decide) (by omega)]
          exact h22 j hj
      · rw [if_neg (fun q => h2 q.2)] at ih
        repeat (refine gV_s rfl (by first | exact trivial | omega) ?_)
        rw [e4]
        exact ih _ hE h22
    · rw [if_neg (fun q => h1 q.1)] at ih
      repeat (refine gV_s rfl (by first | exact trivial | omega) ?_)
      rw [e4]
      exact ih _ hE h22
theorem ok_release {d : Nat} {S M : Mem} {lo : Int → Int} {x b : Int} {P : PV → Mem → Prop} (h : AI S lo x) (hE : Ex [19, 20, 21, 23] M S) (b0 : 0 ≤ b) (b8 : b < 8) (hon : M 19 b = -6 ∨ S 9 (M 19 b) = 1) (hP : P (vI (M 22 b)) (aRel M b)) : gOk mX5_release (d + 2) [vR 5, vI b] M P := by
  have h4 := h.1.2.2.1
  have hkh := h.2.2.2.2.2.2.2.2.1 b b0 b8
  have hnn := ct_nn (fun j => decide (S 34 j = 0 ∧ S 33 j = b)) (S 4 0).toNat
  have e22 : M 22 = S 22 := hE 22 (by decide)
  have hon2 : M 19 b = -6 ∨ (0 ≤ M 19 b ∧ M 19 b < 4) := by
    rcases hon with q | q
    · exact Or.inl q
    · have := AI_up h q; exact Or.inr ⟨this.1, this.2.2⟩
  have hE1 : Ex [19, 20, 21, 23] (mw M 21 b 0) S := Ex.skip1 hE (by decide)
  have hrh : rng (M 22 b) := by rw [e22]; unfold rng; omega
  refine gOk_of mX5_release_ok (by simp) (Nat.le_of_ble_eq_true rfl) ?_
  unfold aRel at hP
  repeat (refine gV_s rfl (by first | exact trivial | omega) ?_)
  refine gV_i rfl (by unfold rng; omega) (fun h1 => ?_) (fun h1 => ?_)
  · rw [if_pos h1] at hP
    repeat (refine gV_s rfl (by first | exact trivial | omega) ?_)
    exact gV_ret rfl trivial hP
  · rw [if_neg h1] at hP
    have hu : S 9 (M 19 b) = 1 := by rcases hon with q | q; exact absurd q h1; exact q
    repeat (refine gV_s rfl (by first | exact trivial | omega) ?_)
    refine gV_i rfl hrh (fun h2 => ?_) (fun h2 => ?_)
    · rw [aLets_none] at hP
      · repeat (refine gV_s rfl (by first | exact trivial | omega) ?_)
        exact gV_ret rfl trivial hP
      · intro i i0 i1 q
        rw [e22, hkh] at h2
        have e4 : M 4 0 = S 4 0 := by rw [hE 4 (by decide)]
        have := ct_zero h2 i i0 (by omega)
        rw [mw_rn _ _ _ (by decide), mw_rn _ _ _ (by decide), hE 34 (by decide), hE 33 (by decide)] at q
        simp at this
        exact this q.1 q.2
    · have e4 : M 4 0 = S 4 0 := by rw [hE 4 (by decide)]
      rw [e4] at hP
      repeat (refine gV_s rfl (by first | exact trivial | omega) ?_)
      have := rel_loop (d := d) (P := P) (hd := M 22 b) h hE1 hu b0 b8 hP (S 4 0).toNat 0 (mw M 21 b 0) (by omega) Ex.rf (fun _ _ => rfl)
      have e4' : mw M 21 b 0 4 0 = S 4 0 := by rw [mw_rn _ _ _ (by decide), e4]
      rw [e4']
      exact this
end
section
/-! The class: a bucket comes there, a tick, ticks. -/
theorem ok_reach {d : Nat} {M : Mem} {lo : Int → Int} {x b l : Int} {P : PV → Mem → Prop} (h : AI M lo x) (b0 : 0 ≤ b) (b8 : b < 8) (hu : M 9 l = 1) (hon : M 19 b ≠ -6) (hP : P none (aReach M b l)) : gOk mX5_reach (d + 3) [vR 5, vI b, vI l] M P := by
  obtain ⟨l0, lL, l4⟩ := AI_up h hu
  have hA := AI_rch0 (b := b) h b0 b8 hu hon
  have hb := h.2.2.1 b
  have hL := h.1.1
  have e19 : aRch0 M b l 19 b = l := by rw [aRch0_19, up1_s]
  have e9 : aRch0 M b l 9 = M 9 := aRch0_o M b l (by decide) (by decide) (by decide)
  have fin : gV mX5_reach (d + 3) P 48 [vR 5, vI b, vI l] [] (aRch0 M b l) := by
    repeat (refine gV_s rfl (by first | exact trivial | omega) ?_)
    refine gV_cV (ok_release (d := d) (P := fun r M' => (∃ v, r = vI v) ∧ M' = aReach M b l) hA Ex.rf b0 b8 (Or.inr (by rw [e19, e9]; exact hu)) ⟨⟨_, rfl⟩, rfl⟩) mX5_release_ok sX5_X5_release rfl rfl rfl rfl rfl rfl ?_
    rintro r M' ⟨⟨v, rfl⟩, rfl⟩
    repeat (refine gV_s rfl (by first | exact trivial | omega) ?_)
    exact gV_retv rfl trivial hP
  refine gOk_of mX5_reach_ok (by simp) (Nat.le_of_ble_eq_true rfl) ?_
  repeat (refine gV_s rfl (by first | exact trivial | omega) ?_)
  refine gV_i rfl (by unfold rng; omega) (fun h1 => ?_) (fun h1 => ?_)
  · have e : aRch0 M b l = mw (mw M 20 b (-6)) 19 b l := by unfold aRch0; rw [if_pos h1]
    rw [e] at fin
    refine gV_s rfl trivial (gV_s rfl trivial (gV_s rfl trivial (gV_s rfl trivial (gV_s rfl trivial (gV_s rfl ⟨b0, b8⟩ (gV_s rfl trivial (gV_s rfl trivial (gV_s rfl trivial (gV_s rfl trivial (gV_s rfl trivial (gV_s rfl ⟨b0, b8⟩ ?_)))))))))))
    exact fin
  · have e : aRch0 M b l = mw (mw (mw M 23 b (M 23 b + 1)) 20 b (-6)) 19 b l := by unfold aRch0; rw [if_neg h1]
    rw [e] at fin
    refine gV_s rfl trivial (gV_s rfl trivial (gV_s rfl trivial (gV_s rfl trivial (gV_s rfl trivial (gV_s rfl ⟨b0, b8⟩ (gV_s rfl trivial (gV_s rfl trivial (gV_s rfl ⟨b0, b8⟩ ?_))))))))
    refine gV_s rfl trivial (gV_s rfl trivial (gV_s rfl trivial (gV_s rfl trivial (gV_s rfl trivial (gV_s rfl ⟨b0, b8⟩ (gV_s rfl trivial (gV_s rfl trivial (gV_s rfl trivial (gV_s rfl trivial (gV_s rfl trivial (gV_s rfl ⟨b0, b8⟩ ?_)))))))))))
    exact fin
theorem ok_settle {d : Nat} {M : Mem} {lo : Int → Int} {x b : Int} {P : PV → Mem → Prop} (h : AI M lo x) (b0 : 0 ≤ b) (b8 : b < 8) (hg : goal M b ≠ -6 → M 9 (goal M b) = 1 ∧ M 19 b ≠ -6) (hP : P none (aSettle M b)) : gOk mX5_settle (d + 4) [vR 5, vI b] M P := by
  have hb := h.2.2.1 b
  have hL := h.1.1
  have fin : gV mX5_settle (d + 4) P 39 [vR 5, vI b, vI (goal M b)] [vI (-6), vI (goal M b)] M := by
    have hgl := goal_lt (b := b) h
    have hgr : -6 ≤ goal M b := by unfold goal; split <;> omega
    refine gV_i rfl (by unfold rng; omega) (fun h1 => ?_) (fun h1 => ?_)
    · have e : aSettle M b = M := by unfold aSettle; rw [if_neg (fun q => q.1 h1)]
      rw [e] at hP
      exact gV_retv rfl trivial hP
    · obtain ⟨g1, g2⟩ := hg h1
      obtain ⟨l0, lL, l4⟩ := AI_up h g1
      repeat (refine gV_s rfl (by first | exact trivial | omega) ?_)
      refine gV_cV (ok_mayReach (d := d + 2) h (by unfold rng; omega) l0 l4) mX5_mayReach_ok sX5_X5_mayReach rfl rfl rfl rfl rfl rfl ?_
      rintro r M' ⟨rfl, ⟨h2, rfl⟩ | ⟨h2, rfl⟩⟩
      · refine gV_in rfl (by unfold rng; omega) (by omega) ?_
        have e : aSettle M' b = aReach M' b (goal M' b) := by unfold aSettle; rw [if_pos ⟨h1, h2⟩]
        rw [e] at hP
        repeat (refine gV_s rfl (by first | exact trivial | omega) ?_)
        refine gV_cV (ok_reach (d := d) (P := fun r M'' => r = none ∧ M'' = aReach M' b (goal M' b)) h b0 b8 g1 g2 ⟨rfl, rfl⟩) mX5_reach_ok sX5_X5_reach rfl rfl rfl rfl rfl rfl ?_
        rintro r M'' ⟨rfl, rfl⟩
        exact gV_retv rfl trivial hP
      · refine gV_it rfl (by unfold rng; omega) rfl ?_
        have e : aSettle M' b = M' := by unfold aSettle; rw [if_neg (fun q => h2 q.2)]
        rw [e] at hP
        exact gV_retv rfl trivial hP
  refine gOk_of mX5_settle_ok (by simp) (Nat.le_of_ble_eq_true rfl) ?_
  repeat (refine gV_s rfl (by first | exact trivial | omega) ?_)
  refine gV_i rfl (by unfold rng; omega) (fun h1 => ?_) (fun h1 => ?_)
  · repeat (refine gV_s rfl (by first | exact trivial | omega) ?_)
    have e : goal M b = M 19 b := by unfold goal; rw [if_pos h1]
    rw [e] at fin
    exact fin
  · repeat (refine gV_s rfl (by first | exact trivial | omega) ?_)
    have e : goal M b = M 20 b := by unfold goal; rw [if_neg h1]
    rw [e] at fin
    exact fin
/-- numbers of letters underway, as the machine compares them -/
theorem AI_ins {M : Mem} {lo : Int → Int} {x : Int} (h : AI M lo x) {s : Int} (s0 : 0 ≤ s) (s6 : s < 6) : 0 ≤ M 41 s ∧ M 41 s ≤ 400 := by
  have h4 := h.1.2.2.1
  have k1 := h.2.2.2.2.2.2.2.1 s s0 s6
  have n1 := ct_nn (fun j => decide (M 34 j = s)) (M 4 0).toNat
  omega
theorem AI_bk {M : Mem} {lo : Int → Int} {x : Int} (h : AI M lo x) (b : Int) : (-6 ≤ M 19 b ∧ M 19 b < 4) ∧ (-6 ≤ M 20 b ∧ M 20 b < 4) ∧ (0 ≤ M 21 b ∧ M 21 b ≤ 1) := by
  have hb := h.2.2.1 b
  have hL := h.1.1
  omega
theorem ok_isBusy {d : Nat} {M : Mem} {lo : Int → Int} {x : Int} (h : AI M lo x) : gOk mX5_isBusy (d + 2) [vR 5] M (yn (¬ idle M) M) := by
  have n1 := AI_ins h (s := 1) (by decide) (by decide)
  have n2 := AI_ins h (s := 2) (by decide) (by decide)
  have n3 := AI_ins h (s := 3) (by decide) (by decide)
  refine gOk_of mX5_isBusy_ok (by simp) (Nat.le_of_ble_eq_true rfl) ?_
  repeat (refine gV_s rfl (by first | exact trivial | omega) ?_)
  refine gV_cV (ok_underway (d := d + 1) (M := M) (by unfold rng; omega)) mX2_isAnyUnderway_ok sX5_X2_isAnyUnderway rfl rfl rfl rfl rfl rfl ?_
  rintro r M' ⟨rfl, ⟨h2, rfl⟩ | ⟨h2, rfl⟩⟩
  · refine gV_in rfl (by unfold rng; omega) (by omega) ?_
    repeat (refine gV_s rfl (by first | exact trivial | omega) ?_)
    exact gV_ret rfl (Or.inr rfl) ⟨rfl, Or.inl ⟨fun q => by have := q.1; omega, rfl⟩⟩
  · refine gV_it rfl (by unfold rng; omega) rfl ?_
    repeat (refine gV_s rfl (by first | exact trivial | omega) ?_)
    refine gV_cV (ok_anyUns (d := d) (M := M') (fun b => by have := AI_bk h b; unfold rng; omega) (fun b => by have := AI_bk h b; unfold rng; omega)) mX0_isAnyUnsettled_ok sX5_X0_isAnyUnsettled rfl rfl rfl rfl rfl rfl ?_
    rintro r M'' ⟨rfl, ⟨h3, rfl⟩ | ⟨h3, rfl⟩⟩
    · refine gV_in rfl (by unfold rng; omega) (by omega) ?_
      repeat (refine gV_s rfl (by first | exact trivial | omega) ?_)
      refine gV_ret rfl (Or.inr rfl) ⟨rfl, Or.inl ⟨fun q => ?_, rfl⟩⟩
      obtain ⟨j, j0, j1, j2⟩ := h3
      have := q.2 j j0 j1
      omega
    · refine gV_it rfl (by unfold rng; omega) rfl ?_
      repeat (refine gV_s rfl (by first | exact trivial | omega) ?_)
      refine gV_ret rfl (Or.inl rfl) ⟨rfl, Or.inr ⟨fun q => q ⟨by omega, fun b b0 b8 => ?_⟩, rfl⟩⟩
      by_cases e1 : M'' 20 b = -6
      · by_cases e2 : M'' 21 b = 0
        · exact ⟨e1, e2⟩
        · exact absurd ⟨b, b0, b8, Or.inr e2⟩ h3
      · exact absurd ⟨b, b0, b8, Or.inl e1⟩ h3
theorem tk_lvs_loop {d : Nat} {S : Mem} {lo : Int → Int} {x : Int} {P : PV → Mem → Prop} (h : AI S lo x) (hlo : ∀ l, lo l < S 5 0) (kk : ∀ z : Int, gV mX5_passTick (d + 5) P 46 [vR 5, vI z] [] (aLvs S (S 1 0).toNat)) : ∀ (n k : Nat), (k : Int) + n = S 1 0 → gV mX5_passTick (d + 5) P 20 [vR 5, vI k] [vI (S 1 0), vI k] (aLvs S k)
  | 0, k, hk => by
    have hL := h.1.1
    have e : k = (S 1 0).toNat := by omega
    subst e
    exact gV_it rfl (by unfold rng; omega) (by omega) (kk _)
  | n + 1, k, hk => by
    have hL := h.1.1
    have hS := AI_lvs h hlo k
    have ih := tk_lvs_loop h hlo kk n (k + 1) (by push_cast; omega)
    have eo : ∀ j r, r ≠ 37 → r ≠ 38 → r ≠ 34 → r ≠ 41 → r ≠ 16 → r ≠ 18 → aLvs S j r = S r := fun j r a1 a2 a3 a4 a5 a6 => aLvs_o S a1 a2 a3 a4 a5 a6 j
    have e1 : aLvs S (k + 1) 1 0 = S 1 0 := by rw [eo _ 1 (by decide) (by decide) (by decide) (by decide) (by decide) (by decide)]
    have e9 := hS.2.1.2.1 k
    have step : aLvs S (k + 1) = if aLvs S k 9 k = 0 then aLvs S k else aLvK (aLvs S k) k (lvN (aLvs S k) k) := rfl
    rw [step] at ih e1
    refine gV_in rfl (by unfold rng; omega) (by omega) ?_
    repeat (refine gV_s rfl (by first | exact trivial | omega) ?_)
    refine gV_i rfl (by unfold rng; omega) (fun h1 => ?_) (fun h1 => ?_)
    · rw [if_pos h1] at ih e1
      repeat (refine gV_s rfl (by first | exact trivial | omega) ?_)
      rw [e1]
      exact ih
    · rw [if_neg h1] at ih e1
      repeat (refine gV_s rfl (by first | exact trivial | omega) ?_)
      refine gV_cV (ok_leave (d := d + 3) (P := fun r M' => r = none ∧ M' = aLvK (aLvs S k) k (lvN (aLvs S k) k)) hS (by omega) (by rw [eo _ 5 (by decide) (by decide) (by decide) (by decide) (by decide) (by decide)]; exact hlo _) ⟨rfl, rfl⟩) mX5_leave_ok sX5_X5_leave rfl rfl rfl rfl rfl rfl ?_
      rintro r M' ⟨rfl, rfl⟩
      repeat (refine gV_s rfl (by first | exact trivial | omega) ?_)
      rw [e1]
      exact ih
theorem tk_ars_loop {d : Nat} {S : Mem} {P : PV → Mem → Prop} {x : Int} (h : AI S (fun _ => S 5 0 - 1) x) (kk : ∀ z : Int, gV mX5_passTick (d + 5) P 70 [vR 5, vI z] [] (aArs S (S 1 0).toNat)) : ∀ (n k : Nat), (k : Int) + n = S 1 0 → gV mX5_passTick (d + 5) P 56 [vR 5, vI k] [vI (S 1 0), vI k] (aArs S k)
  | 0, k, hk => by
    have hL := h.1.1
    have e : k = (S 1 0).toNat := by omega
    subst e
    exact gV_it rfl (by unfold rng; omega) (by omega) (kk _)
  | n + 1, k, hk => by
    have hL := h.1.1
    have hS := AI_ars h k (by omega)
    have ih := tk_ars_loop h kk n (k + 1) (by push_cast; omega)
    have e1 : aArs S (k + 1) 1 0 = S 1 0 := by rw [aArs_o _ (by decide) (by decide) (by decide) (by decide) (by decide) (by decide) (by decide) (by decide)]
    have step : aArs S (k + 1) = aAr (aArs S k) k := rfl
    rw [step] at ih e1
    refine gV_in rfl (by unfold rng; omega) (by omega) ?_
    repeat (refine gV_s rfl (by first | exact trivial | omega) ?_)
    refine gV_cV (ok_arrive (d := d + 2) (P := fun r M' => r = none ∧ M' = aAr (aArs S k) k) hS (by omega) (by omega) ⟨rfl, rfl⟩) mX5_arrive_ok sX5_X5_arrive rfl rfl rfl rfl rfl rfl ?_
    rintro r M' ⟨rfl, rfl⟩
    repeat (refine gV_s rfl (by first | exact trivial | omega) ?_)
    rw [e1]
    exact ih
theorem tk_sets_loop {d : Nat} {S : Mem} {P : PV → Mem → Prop} {lo : Int → Int} (h : AI S lo (-1)) (hP : P none (aSets S 8)) : ∀ (n k : Nat), k + n = 8 → gV mX5_passTick (d + 5) P 91 [vR 5, vI k] [vI 8, vI k] (aSets S k)
  | 0, k, hk => by
    have e : k = 8 := by omega
    subst e
    refine gV_it rfl (by unfold rng; omega) (by omega) ?_
    exact gV_retv rfl trivial hP
  | n + 1, k, hk => by
    have hS := AI_sets h k (by omega)
    have ih := tk_sets_loop (d := d) h hP n (k + 1) (by omega)
    have hb := AI_bk hS k
    have step : aSets S (k + 1) = if aSets S k 20 k ≠ -6 ∨ aSets S k 21 k ≠ 0 then aSettle (aSets S k) k else aSets S k := rfl
    rw [step] at ih
    refine gV_in rfl (by unfold rng; omega) (by omega) ?_
    repeat (refine gV_s rfl (by first | exact trivial | omega) ?_)
    refine gV_cV (ok_isUnsettled (d := d + 4) (M := aSets S k) (b := k) (by omega) (by omega) (by unfold rng; omega) (by unfold rng; omega)) mX0_isUnsettled_ok sX5_X0_isUnsettled rfl rfl rfl rfl rfl rfl ?_
    rintro r M' ⟨rfl, ⟨h2, rfl⟩ | ⟨h2, rfl⟩⟩
    · rw [if_pos h2] at ih
      refine gV_in rfl (by unfold rng; omega) (by omega) ?_
      repeat (refine gV_s rfl (by first | exact trivial | omega) ?_)
      refine gV_cV (ok_settle (d := d) (P := fun r M' => r = none ∧ M' = aSettle (aSets S k) k) hS (by omega) (by omega) (goal_up hS) ⟨rfl, rfl⟩) mX5_settle_ok sX5_X5_settle rfl rfl rfl rfl rfl rfl ?_
      rintro r M' ⟨rfl, rfl⟩
      repeat (refine gV_s rfl (by first | exact trivial | omega) ?_)
      exact ih
    · rw [if_neg h2] at ih
      refine gV_it rfl (by unfold rng; omega) rfl ?_
      repeat (refine gV_s rfl (by first | exact trivial | omega) ?_)
      exact ih
theorem ok_passTick {d : Nat} {M : Mem} {P : PV → Mem → Prop} (h : NI M) (ht : M 5 0 < 1000000) (hP : P none (aTick M)) : gOk mX5_passTick (d + 5) [vR 5] M P := by
  have hL := h.1.1
  have e1 : tk1 M 1 0 = M 1 0 := by unfold tk1; rw [mw_rn _ _ _ (by decide)]
  have et : tk2 M 5 0 = M 5 0 + 1 := by rw [tk2_5]; exact tk1_t M
  have e21 : tk2 M 1 0 = M 1 0 := by rw [tk2_1]
  refine gOk_of mX5_passTick_ok (by simp) (Nat.le_of_ble_eq_true rfl) ?_
  repeat (refine gV_s rfl (by first | exact trivial | omega) ?_)
  have l1 := tk_lvs_loop (d := d) (P := P) (AI_tk1 h ht) (fun l => by rw [tk1_t]; omega) (fun z => ?_) (tk1 M 1 0).toNat 0 (by omega)
  · exact l1
  · have e2 : aLvs (tk1 M) (tk1 M 1 0).toNat = tk2 M := by rw [e1]; rfl
    rw [e2]
    repeat (refine gV_s rfl (by first | exact trivial | omega) ?_)
    have l2 := tk_ars_loop (d := d) (P := P) (S := tk2 M) (x := -1) (by rw [et, show M 5 0 + 1 - 1 = M 5 0 by omega]; exact AI_tk2 h ht) (fun z => ?_) (tk2 M 1 0).toNat 0 (by omega)
    · exact l2
    · have e3 : aArs (tk2 M) (tk2 M 1 0).toNat = tk3 M := by rw [e21]; rfl
      rw [e3]
      have hA3 := AI_tk3 h ht
      have n3 := AI_ins hA3 (s := 3) (by decide) (by decide)
      repeat (refine gV_s rfl (by first | exact trivial | omega) ?_)
      refine gV_i rfl (by unfold rng; omega) (fun h1 => ?_) (fun h1 => ?_)
      · have e4 : tk4 M = tk3 M := by unfold tk4 aOuts; rw [if_neg (by omega)]
        have hA4 := AI_tk4 h ht
        have hP4 : P none (aSets (tk4 M) 8) := hP
        rw [e4] at hA4 hP4
        repeat (refine gV_s rfl (by first | exact trivial | omega) ?_)
        exact tk_sets_loop hA4 hP4 8 0 rfl
      · have e4 : tk4 M = aOutC (bl0 (tk3 M) 16) (tk3 M 4 0).toNat := by unfold tk4 aOuts; rw [if_pos (by omega)]
        have hA4 := AI_tk4 h ht
        have hP4 : P none (aSets (tk4 M) 8) := hP
        repeat (refine gV_s rfl (by first | exact trivial | omega) ?_)
        refine gV_cV (ok_letOutInOrder (d := d + 2) (P := fun r M' => r = none ∧ M' = tk4 M) hA3 ⟨rfl, e4.symm⟩) mX5_letOutInOrder_ok sX5_X5_letOutInOrder rfl rfl rfl rfl rfl rfl ?_
        rintro r M' ⟨rfl, rfl⟩
        repeat (refine gV_s rfl (by first | exact trivial | omega) ?_)
        exact tk_sets_loop hA4 hP4 8 0 rfl
end
section
/-! A letter is sent. -/
def aNew (S : Mem) (f b : Int) : Mem := mw (mw (aAdd S f (S 26 f) b (S 5 0)) 26 f (S 26 f + 1)) 22 b (S 22 b + 1)
theorem ct_new {p q : Int → Bool} {n : Int} (h0 : 0 ≤ n) (h : ∀ j, 0 ≤ j → j < n → q j = p j) : ct q (n + 1).toNat = ct p n.toNat + bi (q n) := by
  have e : (n + 1).toNat = n.toNat + 1 := by omega
  have e2 : ((n.toNat : Nat) : Int) = n := by omega
  rw [e, ct_s', ct_cong (q := p) (fun j a b => h j a (by omega)), e2]
theorem aNew_o (S : Mem) (f b : Int) {r : Nat} (h : r < 22 ∨ r = 23 ∨ r = 24 ∨ r = 25 ∨ (26 < r ∧ r < 31) ∨ r = 40 ∨ 41 < r) (h4 : r ≠ 4) : aNew S f b r = S r := by
  unfold aNew aAdd
  rw [mw_rn _ _ _ (by omega), mw_rn _ _ _ (by omega), mw_rn _ _ _ h4, mw_rn _ _ _ (by omega), mw_rn _ _ _ (by omega), mw_rn _ _ _ (by omega), mw_rn _ _ _ (by omega), mw_rn _ _ _ (by omega), mw_rn _ _ _ (by omega), mw_rn _ _ _ (by omega), mw_rn _ _ _ (by omega), mw_rn _ _ _ (by omega), mw_rn _ _ _ (by omega)]
theorem aNew_rows (S : Mem) (f b : Int) : aNew S f b 31 = up1 (S 31) (S 4 0) f ∧ aNew S f b 32 = up1 (S 32) (S 4 0) (S 26 f) ∧ aNew S f b 33 = up1 (S 33) (S 4 0) b ∧ aNew S f b 34 = up1 (S 34) (S 4 0) 0 ∧ aNew S f b 35 = up1 (S 35) (S 4 0) (-6) ∧ aNew S f b 38 = up1 (S 38) (S 4 0) (-6) ∧
    aNew S f b 41 = up1 (S 41) 0 (S 41 0 + 1) ∧ aNew S f b 4 = up1 (S 4) 0 (S 4 0 + 1) ∧ aNew S f b 26 = up1 (S 26) f (S 26 f + 1) ∧ aNew S f b 22 = up1 (S 22) b (S 22 b + 1) := by
  unfold aNew aAdd
  simp only [mw_rs, mw_rn, ne_eq, not_false_eq_true, Nat.reduceEqDiff, Nat.reduceLT, Nat.reduceLeDiff, true_or, or_true, forall_const, and_self]
theorem AI_new {S : Mem} {lo : Int → Int} {x f b : Int} (h : AI S lo x) (f0 : 0 ≤ f) (f1 : f < S 3 0) (hn4 : S 4 0 < 400) (b0 : 0 ≤ b) (b8 : b < 8) (hhb : S 21 b = 1 ∨ S 19 b = -6) : AI (aNew S f b) lo x := by
  have eo : ∀ r : Nat, (r < 22 ∨ r = 23 ∨ r = 24 ∨ r = 25 ∨ (26 < r ∧ r < 31) ∨ r = 40 ∨ 41 < r) → r ≠ 4 → aNew S f b r = S r := fun r a c => aNew_o S f b a c
  obtain ⟨e31, e32, e33, e34, e35, e38, e41, e4, e26, e22⟩ := aNew_rows S f b
  have eq : ∀ l' p, 0 ≤ l' → l' < 4 → qr (aNew S f b) l' p = qr S l' p := fun l' p a c => by
    show aNew S f b (11 + l'.toNat) p = _
    rw [eo _ (by omega) (by omega)]
  obtain ⟨ha, hl, hb, hn, hh, hf, ht, ks, kh, kf, kl, hq, hi, ho⟩ := h
  have hn0 := ha.2.2.1
  have hF := ha.2.1
  have hsent := (kf f f0 (by omega)).1
  have hsn := ct_nn (fun j => decide (S 31 j = f)) (S 4 0).toNat
  have ne : ∀ j : Int, j < S 4 0 → j ≠ S 4 0 := fun j q => by omega
  unfold AI Ja
  simp only [eo, e31, e32, e33, e34, e35, e38, e41, e4, e26, e22, up1_s, ne_eq, not_false_eq_true, Nat.reduceEqDiff, Nat.reduceLT, Nat.reduceLeDiff, true_or, or_true, forall_const, Nat.reduceEqDiff, or_false, false_or, and_self, or_self, and_false, false_and]
  refine ⟨⟨ha.1, ha.2.1, ⟨by omega, by omega⟩, ha.2.2.2⟩, hl, hb, hn, ?_, hf, ?_, ?_, ?_, ?_, ?_, Jq_rw ?_ eq, Ji_rw ?_ ha.1.2 eq, ?_⟩
  · intro i i0 i1 i2
    by_cases e : i = S 4 0
    · subst e
      rw [up1_s]
      exact hhb
    · rw [up1_n _ _ e] at i2 ⊢
      exact hh i i0 (by omega) i2
  · intro i
    obtain ⟨q1, q2, q3, q4, q5⟩ := ht i
    by_cases e : i = S 4 0
    · subst e
      simp only [up1_s]
      omega
    · simp only [up1_n _ _ e]
      exact ⟨⟨q1.1, q1.2.1, fun a c => q1.2.2 a (by omega)⟩, q2, q3, q4, q5⟩
  · intro s s0 s6
    rw [ct_new (p := fun j => decide (S 34 j = s)) hn0.1 (fun j j0 j1 => by rw [up1_n _ _ (ne j j1)]), up1_s, up1_e]
    split
    · rename_i e
      subst e
      rw [ks 0 s0 s6]
      rfl
    · rename_i e
      rw [ks s s0 s6]
      simp [bi, Ne.symm e]
  · intro c c0 c8
    rw [ct_new (p := fun j => decide (S 34 j = 0 ∧ S 33 j = c)) hn0.1 (fun j j0 j1 => by rw [up1_n _ _ (ne j j1), up1_n _ _ (ne j j1)]), up1_s, up1_s, up1_e]
    split
    · rename_i e
      subst e
      rw [kh c c0 c8]
      simp [bi]
    · rename_i e
      rw [kh c c0 c8]
      simp [bi, Ne.symm e]
  · intro g g0 g6
    obtain ⟨k1, k2, k3⟩ := kf g g0 g6
    rw [ct_new (p := fun j => decide (S 31 j = g)) hn0.1 (fun j j0 j1 => by rw [up1_n _ _ (ne j j1)]), ct_new (p := fun j => decide (S 34 j = 4 ∧ S 31 j = g)) hn0.1 (fun j j0 j1 => by rw [up1_n _ _ (ne j j1), up1_n _ _ (ne j j1)]), ct_new (p := fun j => decide (S 34 j = 5 ∧ S 31 j = g)) hn0.1 (fun j j0 j1 => by rw [up1_n _ _ (ne j j1), up1_n _ _ (ne j j1)]), up1_s, up1_s, up1_e, ← k1, ← k2, ← k3]
    by_cases e : g = f
    · subst e
      simp [bi]
    · simp [bi, e, Ne.symm e]
  · intro l l0 l4
    obtain ⟨k1, k2, k3⟩ := kl l l0 l4
    rw [ct_new (p := fun j => decide (S 35 j = l)) hn0.1 (fun j j0 j1 => by rw [up1_n _ _ (ne j j1)]), ct_new (p := fun j => decide (S 34 j = 1 ∧ S 35 j = l)) hn0.1 (fun j j0 j1 => by rw [up1_n _ _ (ne j j1), up1_n _ _ (ne j j1)]), ct_new (p := fun j => decide (S 34 j = 2 ∧ S 35 j = l)) hn0.1 (fun j j0 j1 => by rw [up1_n _ _ (ne j j1), up1_n _ _ (ne j j1)]), up1_s, up1_s, ← k1, ← k2, ← k3]
    simp [bi, show ¬ (-6 : Int) = l by omega]
  · intro l l0 l4
    obtain ⟨q1, q4, q5, q6, q7⟩ := hq l l0 l4
    refine ⟨q1, fun p p0 p1 => ?_, q5, fun p p' p0 p1 p2 => ?_, q7⟩
    · have h4 := q4 p p0 p1
      have hk := ne _ h4.1.2.1
      simp only [up1_n _ _ hk]
      exact ⟨⟨h4.1.1, by have := h4.1.2.1; omega, h4.1.2.2⟩, h4.2⟩
    · have h4 := (q4 p (by omega) (by omega)).1.2.1
      have h5 := (q4 p' (by omega) (by omega)).1.2.1
      rw [up1_n _ _ (ne _ h4), up1_n _ _ (ne _ h5)]
      exact q6 p p' p0 p1 p2
  · intro i i0 i1
    by_cases e : i = S 4 0
    · subst e
      left
      simp only [up1_s, and_self]
    · simp only [up1_n _ _ e]
      exact hi i i0 (by omega)
  · obtain ⟨o1, o2, o3⟩ := ho
    have e4i : up1 (S 41) 0 (S 41 0 + 1) 4 = S 41 4 := up1_n _ _ (by decide)
    unfold Jo
    rw [e4i]
    have cg : ∀ j : Int, 0 ≤ j → j < (S 41 4).toNat → up1 (S 31) (S 4 0) f (S 40 j) = S 31 (S 40 j) ∧ up1 (S 32) (S 4 0) (S 26 f) (S 40 j) = S 32 (S 40 j) := fun j j0 j1 => by
      have := (o1 j j0 (by omega)).2
      rw [up1_n _ _ (ne _ this), up1_n _ _ (ne _ this)]
      exact ⟨rfl, rfl⟩
    refine ⟨fun k k0 k1 => ⟨(o1 k k0 k1).1, by have := (o1 k k0 k1).2; omega⟩, fun g g0 g1 => ?_, o3⟩
    rw [lastP_cong cg, mixP_cong cg]
    exact o2 g g0 g1
def aPost0 (S : Mem) (f : Int) : Mem := mw (aAdd S f (S 26 f) (bkO S f) (S 5 0)) 26 f (S 26 f + 1)
def aPost (S : Mem) (f : Int) : Mem := if S 21 (bkO S f) ≠ 0 ∨ S 19 (bkO S f) = -6 ∨ 0 < S 22 (bkO S f) then aNew S f (bkO S f) else aEnq (aPost0 S f) (S 4 0) (S 19 (bkO S f))
theorem bkO_in {S : Mem} {lo : Int → Int} {x f : Int} (h : AI S lo x) (f0 : 0 ≤ f) (f1 : f < 16) : 0 ≤ bkO S f ∧ bkO S f < 8 := by
  have hf := h.2.2.2.2.2.1 f
  have ha := h.1.2.2.2.2.2
  have hb := fa_bd f0 f1 ha.1.1 ha.1.2
  unfold bkO
  split <;> omega
theorem Ex.new {X : List Nat} {M S : Mem} (h : Ex X M S) (hX : ∀ r ∈ X, r = 21) {f b : Int} : Ex X (aNew M f b) (aNew S f b) := by
  have k : ∀ r, r ≠ 21 → r ∉ X := fun r a hq => by have := hX r hq; omega
  unfold aNew aAdd
  rw [h 26 (k _ (by decide)), h 22 (k _ (by decide)), h 5 (k _ (by decide)), h 4 (k _ (by decide))]
  have e := Ex.w (Ex.w (Ex.w (Ex.w (Ex.w (Ex.w (Ex.w (Ex.w (Ex.w h (r := 31) (i := S 4 0) (v := f) rfl rfl) (r := 32) (i := S 4 0) (v := S 26 f) rfl rfl) (r := 33) (i := S 4 0) (v := b) rfl rfl) (r := 34) (i := S 4 0) (v := 0) rfl rfl) (r := 35) (i := S 4 0) (v := -6) rfl rfl) (r := 36) (i := S 4 0) (v := S 5 0) rfl rfl) (r := 37) (i := S 4 0) (v := -6) rfl rfl) (r := 38) (i := S 4 0) (v := -6) rfl rfl) (r := 39) (i := S 4 0) (v := -6) rfl rfl
  exact Ex.w (Ex.w (Ex.w (Ex.w e rfl (by rw [e 41 (k _ (by decide))])) rfl rfl) rfl rfl) rfl rfl
/-- the counted letter that is queued at once -/
theorem aPost_q {S : Mem} {f b l : Int} (hl : l < 4) : aEnqH (aNew S f b) (S 4 0) l = aEnq (mw (aAdd S f (S 26 f) b (S 5 0)) 26 f (S 26 f + 1)) (S 4 0) l := by
  have h33 : aNew S f b 33 (S 4 0) = b := by rw [(aNew_rows S f b).2.2.1, up1_s]
  have h22 : aNew S f b 22 b = S 22 b + 1 := by rw [(aNew_rows S f b).2.2.2.2.2.2.2.2.2, up1_s]
  unfold aEnqH
  rw [h33, h22]
  unfold aNew
  generalize hT : mw (aAdd S f (S 26 f) b (S 5 0)) 26 f (S 26 f + 1) = T
  have t22 : T 22 = S 22 := by
    rw [← hT]
    unfold aAdd
    simp only [mw_rs, mw_rn, ne_eq, not_false_eq_true, Nat.reduceEqDiff, Nat.reduceLT, Nat.reduceLeDiff, true_or, or_true, forall_const]
  have e : aEnq (mw T 22 b (S 22 b + 1)) (S 4 0) l = mw (aEnq T (S 4 0) l) 22 b (S 22 b + 1) := by
    unfold aEnq
    rw [mw_rn T _ _ (show (17 : Nat) ≠ 22 by decide), mw_comm T _ _ _ _ (show (22 : Nat) ≠ 11 + l.toNat by omega), mw_comm _ _ _ _ _ (show (22 : Nat) ≠ 17 by decide), mw_comm _ _ _ _ _ (show (22 : Nat) ≠ 35 by decide), mw_turn _ _ _ _ _ (by decide) (by decide)]
  rw [e, mw_mw]
  have e2 : S 22 b + 1 - 1 = aEnq T (S 4 0) l 22 b := by
    rw [aEnq_o _ _ _ (by decide) (by decide) (by decide) (by decide) (by omega), t22]
    omega
  rw [e2, mw_id]
theorem AI_post {S : Mem} {lo : Int → Int} {f : Int} (h : AI S lo (-1)) (f0 : 0 ≤ f) (f1 : f < S 3 0) (hn4 : S 4 0 < 400) : AI (aPost S f) lo (-1) := by
  have hF := h.1.2.1
  obtain ⟨b0, b8⟩ := bkO_in h f0 (by omega)
  generalize hb : bkO S f = b at b0 b8
  unfold aPost
  rw [hb]
  have hJb := h.2.2.1 b
  have hkh := h.2.2.2.2.2.2.2.2.1 b b0 b8
  have hnn := ct_nn (fun j => decide (S 34 j = 0 ∧ S 33 j = b)) (S 4 0).toNat
  split
  · rename_i hc
    refine AI_new h f0 f1 hn4 b0 b8 ?_
    rcases hc with q | q | q
    · rcases hJb.2.2.1 with q2 | q2
      · exact absurd q2 q
      · exact Or.inl q2
    · exact Or.inr q
    · by_cases e : S 21 b = 1
      · exact Or.inl e
      · by_cases e2 : S 19 b = -6
        · exact Or.inr e2
        · rw [hkh, ct_none (fun i i0 i1 => ?_)] at q
          · omega
          · simp only [decide_eq_false_iff_not]
            rintro ⟨w1, w2⟩
            have := h.2.2.2.2.1 i i0 (by omega) w1
            rw [w2] at this
            rcases this with w | w
            · exact e w
            · exact e2 w
  · rename_i hc
    have hz : S 21 b = 0 := by
      by_cases q : S 21 b = 0
      · exact q
      · exact absurd (Or.inl q) hc
    have hon : S 19 b ≠ -6 := fun q => hc (Or.inr (Or.inl q))
    have hh0 : S 22 b = 0 := by
      have : ¬ 0 < S 22 b := fun q => hc (Or.inr (Or.inr q))
      omega
    have hu : S 9 (S 19 b) = 1 := by rcases hJb.1 with q | ⟨q1, q2, q3 | q3⟩ <;> first | exact q3 | omega
    obtain ⟨l0, lL, l4⟩ := AI_up h hu
    have hfree : ∀ i, 0 ≤ i → i < S 4 0 → S 34 i = 0 → S 33 i ≠ b := fun i i0 i1 i2 i3 => by
      have := ct_zero (hkh.symm.trans hh0) i i0 (by omega)
      simp [i2, i3] at this
    have h1 : AI (mw S 21 b 1) lo (-1) := by
      refine AI_b h (fun r a1 a2 a3 a4 => mw_rn _ _ _ a3) ?_ ?_ ?_
      · simp only [mw_rs, mw_rn, ne_eq, not_false_eq_true, Nat.reduceEqDiff, Nat.reduceLT, Nat.reduceLeDiff, true_or, or_true, forall_const]
        intro c
        obtain ⟨g1, g2, g3, g4, g5⟩ := h.2.2.1 c
        by_cases e : c = b
        · subst e
          simp only [up1_s]
          exact ⟨g1, g2, Or.inr trivial, fun _ => hon, g5⟩
        · simp only [up1_n _ _ e]
          exact ⟨g1, g2, g3, g4, g5⟩
      · simp only [mw_rn, ne_eq, not_false_eq_true, Nat.reduceEqDiff, Nat.reduceLT, Nat.reduceLeDiff, true_or, or_true, forall_const]
        exact h.2.2.2.1
      · simp only [mw_rs, mw_rn, ne_eq, not_false_eq_true, Nat.reduceEqDiff, Nat.reduceLT, Nat.reduceLeDiff, true_or, or_true, forall_const]
        intro i i0 i1 i2
        rcases h.2.2.2.2.1 i i0 i1 i2 with q | q
        · left
          rw [up1_e]
          split
          · rfl
          · exact q
        · exact Or.inr q
    have h2 : AI (aNew (mw S 21 b 1) f b) lo (-1) := AI_new h1 f0 f1 hn4 b0 b8 (Or.inl (by rw [mw_rs, up1_s]))
    have e21 : aNew (mw S 21 b 1) f b = mw (aNew S f b) 21 b 1 := by
      refine mem_ext (fun r => ?_)
      by_cases e : r = 21
      · subst e
        rw [aNew_o _ _ _ (by omega) (by decide), mw_rs, mw_rs, aNew_o _ _ _ (by omega) (by decide)]
      · rw [mw_rn _ _ _ e]
        have hx : Ex [21] (mw S 21 b 1) S := Ex.skip1 Ex.rf (by decide)
        exact Ex.new hx (by simp) r (by simp [e])
    rw [e21] at h2
    have hrow := aNew_rows S f b
    have h3 : AI (aEnqH (mw (aNew S f b) 21 b 1) (S 4 0) (S 19 b)) lo (-1) := by
      refine AI_enqH h2 h.1.2.2.1.1 ?_ ?_ ?_
      · rw [mw_rn _ _ _ (by decide), hrow.2.2.2.2.2.2.2.1, up1_s]; omega
      · rw [mw_rn _ _ _ (by decide), hrow.2.2.2.1, up1_s]
      · rw [mw_rn _ _ _ (by decide), aNew_o _ _ _ (by omega) (by decide)]; exact hu
    rw [mw_enqH _ _ _ _ _ (by decide) (by decide) (by decide) (by decide) (by decide) (by omega) (by decide) l4] at h3
    unfold aPost0
    rw [hb, ← aPost_q (b := b) l4]
    have eT : aEnqH (aNew S f b) (S 4 0) (S 19 b) 21 = S 21 := by rw [aEnqH_o _ _ _ (by decide) (by decide) (by decide) (by decide) (by decide) (by omega) l4, aNew_o _ _ _ (by omega) (by decide)]
    have e9 : aEnqH (aNew S f b) (S 4 0) (S 19 b) 19 = S 19 := by rw [aEnqH_o _ _ _ (by decide) (by decide) (by decide) (by decide) (by decide) (by omega) l4, aNew_o _ _ _ (by omega) (by decide)]
    have e33 : aEnqH (aNew S f b) (S 4 0) (S 19 b) 33 = up1 (S 33) (S 4 0) b := by rw [aEnqH_o _ _ _ (by decide) (by decide) (by decide) (by decide) (by decide) (by omega) l4, hrow.2.2.1]
    have e34 : aEnqH (aNew S f b) (S 4 0) (S 19 b) 34 = up1 (S 34) (S 4 0) 1 := by rw [aEnqH_34 _ _ l4, hrow.2.2.2.1, up1_up1]
    have e4 : aEnqH (aNew S f b) (S 4 0) (S 19 b) 4 = up1 (S 4) 0 (S 4 0 + 1) := by rw [aEnqH_o _ _ _ (by decide) (by decide) (by decide) (by decide) (by decide) (by omega) l4, hrow.2.2.2.2.2.2.2.1]
    generalize hT : aEnqH (aNew S f b) (S 4 0) (S 19 b) = T at h3 eT e9 e33 e34 e4
    have back : mw (mw T 21 b 1) 21 b 0 = T := by
      rw [mw_mw, show (0 : Int) = T 21 b by rw [eT]; exact hz.symm, mw_id]
    rw [← back]
    refine AI_b h3 (fun r a1 a2 a3 a4 => mw_rn _ _ _ a3) ?_ ?_ ?_
    · have hJ := h3.2.2.1
      simp only [mw_rs, mw_rn, ne_eq, not_false_eq_true, Nat.reduceEqDiff, Nat.reduceLT, Nat.reduceLeDiff, true_or, or_true, forall_const] at hJ ⊢
      intro c
      obtain ⟨g1, g2, g3, g4, g5⟩ := hJ c
      refine ⟨g1, g2, ?_, ?_, g5⟩
      · rw [up1_up1, up1_e]
        rw [up1_e] at g3
        split
        · exact Or.inl rfl
        · rename_i q; rw [if_neg q] at g3; exact g3
      · rw [up1_up1, up1_e]
        rw [up1_e] at g4
        split
        · exact fun q => by omega
        · rename_i q; rw [if_neg q] at g4; exact g4
    · have hJ := h3.2.2.2.1
      simp only [mw_rn, ne_eq, not_false_eq_true, Nat.reduceEqDiff, Nat.reduceLT, Nat.reduceLeDiff, true_or, or_true, forall_const] at hJ ⊢
      exact hJ
    · have hJ := h3.2.2.2.2.1
      simp only [mw_rs, mw_rn, ne_eq, not_false_eq_true, Nat.reduceEqDiff, Nat.reduceLT, Nat.reduceLeDiff, true_or, or_true, forall_const] at hJ ⊢
      intro i i0 i1 i2
      have hi33 : T 33 i ≠ b := fun q => by
        rw [e33, e34] at *
        by_cases e : i = S 4 0
        · subst e
          rw [up1_s] at i2
          omega
        · rw [up1_n _ _ e] at i2 q
          rw [e4, up1_s] at i1
          exact hfree i i0 (by omega) i2 q
      rcases hJ i i0 i1 i2 with q | q
      · left
        rw [up1_up1, up1_n _ _ hi33]
        rw [up1_n _ _ hi33] at q
        exact q
      · exact Or.inr q
end
section
/-! Links that take buckets; moves told and dropped. -/
def aTake (S : Mem) (l : Int) : Nat → Mem
  | 0 => S
  | k + 1 =>
    let T := aTake S l k
    if T 19 k = -6 then aRel (mw T 19 k l) k else T
theorem aTk1_eq {T : Mem} {b l : Int} (l0 : 0 ≤ l) (l4 : l < 4) : aRel (mw T 19 b l) b = mw (mw (aLets T b l (T 4 0).toNat) 19 b l) 21 b 0 := by
  unfold aRel
  rw [mw_rs, up1_s, if_neg (by omega), mw_lets _ _ _ _ _ (by decide) (by decide) (by decide) (by decide) (by decide) (by omega) (by decide) l4, mw_lets _ _ _ _ _ (by decide) (by decide) (by decide) (by decide) (by decide) (by omega) (by decide) l4, mw_rn _ _ _ (by decide)]
theorem aTake_o (S : Mem) {l : Int} (l0 : 0 ≤ l) (l4 : l < 4) {r : Nat} (p1 : r ≠ 19) (q0 : r ≠ 21) (q1 : r ≠ 22) (q2 : r ≠ 17) (q3 : r ≠ 34) (q4 : r ≠ 35) (q5 : r ≠ 41) (q6 : r < 11 ∨ 15 ≤ r) : ∀ k, aTake S l k r = S r
  | 0 => rfl
  | k + 1 => by
    unfold aTake
    dsimp only
    split
    · rw [aTk1_eq l0 l4, mw_rn _ _ _ q0, mw_rn _ _ _ p1, aLets_o _ _ _ q1 q2 q3 q4 q5 q6 l4, aTake_o S l0 l4 p1 q0 q1 q2 q3 q4 q5 q6 k]
    · exact aTake_o S l0 l4 p1 q0 q1 q2 q3 q4 q5 q6 k
theorem aTake_19 (S : Mem) {l : Int} (l0 : 0 ≤ l) (l4 : l < 4) : ∀ (k : Nat) (b : Int), aTake S l k 19 b = if 0 ≤ b ∧ b < k ∧ S 19 b = -6 then l else S 19 b
  | 0, b => by rw [if_neg (by omega)]; rfl
  | k + 1, b => by
    have ih := aTake_19 S l0 l4 k
    have ik : aTake S l k 19 k = S 19 k := by rw [ih, if_neg (by omega)]
    unfold aTake
    dsimp only
    rw [ik]
    by_cases hc : S 19 k = -6
    · rw [if_pos hc, aTk1_eq l0 l4, mw_rn _ _ _ (by decide), mw_rs, aLets_o _ _ _ (by decide) (by decide) (by decide) (by decide) (by decide) (by omega) l4, up1_e]
      by_cases e : b = k
      · subst e
        rw [if_pos rfl, if_pos ⟨by omega, by omega, hc⟩]
      · rw [if_neg e, ih]
        by_cases h2 : 0 ≤ b ∧ b < k ∧ S 19 b = -6
        · rw [if_pos h2, if_pos ⟨h2.1, by omega, h2.2.2⟩]
        · rw [if_neg h2, if_neg (fun q => h2 ⟨q.1, by omega, q.2.2⟩)]
    · rw [if_neg hc, ih]
      by_cases h2 : 0 ≤ b ∧ b < k ∧ S 19 b = -6
      · rw [if_pos h2, if_pos ⟨h2.1, by omega, h2.2.2⟩]
      · rw [if_neg h2, if_neg (fun q => ?_)]
        by_cases e : b = k
        · subst e; exact hc q.2.2
        · exact h2 ⟨q.1, by omega, q.2.2⟩
theorem AI_take1 {T : Mem} {lo : Int → Int} {b l : Int} (h : AI T lo (-2)) (b0 : 0 ≤ b) (b8 : b < 8) (hu : T 9 l = 1) (hon : T 19 b = -6) : AI (aRel (mw T 19 b l) b) lo (-2) := by
  obtain ⟨l0, lL, l4⟩ := AI_up h hu
  have h4 := h.1.2.2.1
  rw [aTk1_eq l0 l4]
  have h1 := AI_lets (b := b) h hu (T 4 0).toNat (by omega)
  have eo : ∀ r, r ≠ 22 → r ≠ 17 → r ≠ 34 → r ≠ 35 → r ≠ 41 → (r < 11 ∨ 15 ≤ r) → aLets T b l (T 4 0).toNat r = T r := fun r a1 a2 a3 a4 a5 a6 => aLets_o T b _ a1 a2 a3 a4 a5 a6 l4 _
  refine AI_b h1 (fun r a1 a2 a3 a4 => by rw [mw_rn _ _ _ a3, mw_rn _ _ _ a1]) ?_ (fun q => absurd rfl q) ?_
  · simp only [mw_rs, mw_rn, eo, ne_eq, not_false_eq_true, Nat.reduceEqDiff, Nat.reduceLT, Nat.reduceLeDiff, true_or, or_true, forall_const]
    intro c
    obtain ⟨g1, g2, g3, g4, g5⟩ := h.2.2.1 c
    by_cases e : c = b
    · subst e
      simp only [up1_s]
      refine ⟨Or.inr ⟨l0, lL, Or.inl hu⟩, ?_, Or.inl trivial, fun q => by omega, fun q => by omega⟩
      rcases g2 with q | q
      · exact Or.inl q
      · exact absurd hon q.2.2.2.1
    · simp only [up1_n _ _ e]
      exact ⟨g1, g2, g3, g4, g5⟩
  · have hJ := h1.2.2.2.2.1
    simp only [mw_rs, mw_rn, eo, ne_eq, not_false_eq_true, Nat.reduceEqDiff, Nat.reduceLT, Nat.reduceLeDiff, true_or, or_true, forall_const] at hJ ⊢
    intro i i0 i1 i2
    have hf := lets_free (b := b) l4 h4.1 i i0 i1 i2
    rw [up1_n _ _ hf, up1_n _ _ hf]
    exact hJ i i0 i1 i2
theorem AI_take {S : Mem} {lo : Int → Int} {l : Int} (h : AI S lo (-2)) (hu : S 9 l = 1) : ∀ k : Nat, k ≤ 8 → AI (aTake S l k) lo (-2)
  | 0, _ => h
  | k + 1, hk => by
    obtain ⟨l0, lL, l4⟩ := AI_up h hu
    have ih := AI_take h hu k (by omega)
    unfold aTake
    dsimp only
    split
    · rename_i hc
      exact AI_take1 ih (by omega) (by omega) (by rw [aTake_o S l0 l4 (by decide) (by decide) (by decide) (by decide) (by decide) (by decide) (by decide) (by omega)]; exact hu) hc
    · exact ih
theorem AI_x {S : Mem} {lo : Int → Int} {x x' : Int} (h : AI S lo x) (hb : ∀ b, (S 19 b = x → x = x') ∧ (S 20 b = x → x = x')) (hn : Jn x' (S 9) (S 19)) : AI S lo x' := by
  obtain ⟨ha, hl, hb', hn', hh, hf, ht, ks, kh, kf, kl, hq, hi, ho⟩ := h
  refine ⟨ha, hl, ?_, hn, hh, hf, ht, ks, kh, kf, kl, hq, hi, ho⟩
  intro b
  obtain ⟨g1, g2, g3, g4, g5⟩ := hb' b
  obtain ⟨w1, w2⟩ := hb b
  refine ⟨?_, ?_, g3, g4, g5⟩
  · rcases g1 with q | ⟨q1, q2, q3 | q3⟩
    · exact Or.inl q
    · exact Or.inr ⟨q1, q2, Or.inl q3⟩
    · exact Or.inr ⟨q1, q2, Or.inr (q3.trans (w1 q3))⟩
  · rcases g2 with q | ⟨q1, q2, q3 | q3, q4, q5⟩
    · exact Or.inl q
    · exact Or.inr ⟨q1, q2, Or.inl q3, q4, q5⟩
    · exact Or.inr ⟨q1, q2, Or.inr (q3.trans (w2 q3)), q4, q5⟩
theorem AI_m2 {S : Mem} {lo : Int → Int} (h : AI S lo (-1)) : AI S lo (-2) := by
  refine AI_x h (fun b => ?_) (fun q => absurd rfl q)
  have := h.2.2.1 b
  omega
theorem AI_take8 {S : Mem} {lo : Int → Int} {l : Int} (h : AI S lo (-2)) (hu : S 9 l = 1) : AI (aTake S l 8) lo (-1) := by
  obtain ⟨l0, lL, l4⟩ := AI_up h hu
  have h1 := AI_take h hu 8 (by omega)
  refine AI_x h1 (fun b => ?_) (fun _ _ b b0 b8 => ?_)
  · have := h1.2.2.1 b
    omega
  · rw [aTake_19 S l0 l4]
    split
    · omega
    · rename_i q
      exact fun w => q ⟨b0, by omega, w⟩
/-! a link is made, or comes back -/
theorem AI_link0 {S : Mem} {lo : Int → Int} {s d : Int} (h : AI S lo (-1)) (hL4 : S 1 0 < 4) (hs : 1 ≤ s ∧ s ≤ 8) (hd : 1 ≤ d ∧ d ≤ 30) : AI (aLink0 S s d) lo (-2) := by
  have hno := fun l (q : S 1 0 ≤ l) (q4 : l < 4) => AI_nolink h q q4
  have e1 : aLink0 S s d 1 = up1 (S 1) 0 (S 1 0 + 1) := by unfold aLink0; simp only [mw_rs, mw_rn, ne_eq, not_false_eq_true, Nat.reduceEqDiff, Nat.reduceLT, Nat.reduceLeDiff, true_or, or_true, forall_const]
  have e7 : aLink0 S s d 7 = up1 (S 7) (S 1 0) s := by unfold aLink0; simp only [mw_rs, mw_rn, ne_eq, not_false_eq_true, Nat.reduceEqDiff, Nat.reduceLT, Nat.reduceLeDiff, true_or, or_true, forall_const]
  have e8 : aLink0 S s d 8 = up1 (S 8) (S 1 0) d := by unfold aLink0; simp only [mw_rs, mw_rn, ne_eq, not_false_eq_true, Nat.reduceEqDiff, Nat.reduceLT, Nat.reduceLeDiff, true_or, or_true, forall_const]
  have e9 : aLink0 S s d 9 = up1 (S 9) (S 1 0) 1 := by unfold aLink0; simp only [mw_rs, mw_rn, ne_eq, not_false_eq_true, Nat.reduceEqDiff, Nat.reduceLT, Nat.reduceLeDiff, true_or, or_true, forall_const]
  have eo : ∀ r : Nat, r ≠ 1 → r ≠ 7 → r ≠ 8 → r ≠ 9 → aLink0 S s d r = S r := fun r a b c e => by unfold aLink0; rw [mw_rn _ _ _ a, mw_rn _ _ _ e, mw_rn _ _ _ c, mw_rn _ _ _ b]
  have eq : ∀ l' p, 0 ≤ l' → l' < 4 → qr (aLink0 S s d) l' p = qr S l' p := fun l' p a b => by
    show aLink0 S s d (11 + l'.toNat) p = _
    rw [eo _ (by omega) (by omega) (by omega) (by omega)]
  obtain ⟨ha, hl, hb, hn, hh, hf, ht, ks, kh, kf, kl, hq, hi, ho⟩ := h
  have hL := ha.1
  have hup : ∀ l, l < S 1 0 → up1 (S 9) (S 1 0) 1 l = S 9 l := fun l q => up1_n _ _ (by omega)
  unfold AI Ja
  simp only [eo, e1, e7, e8, e9, up1_s, ne_eq, not_false_eq_true, Nat.reduceEqDiff, Nat.reduceLT, Nat.reduceLeDiff, true_or, or_true, forall_const]
  refine ⟨⟨⟨by omega, by omega⟩, ha.2⟩, ?_, ?_, fun q => absurd rfl q, hh, hf, ht, ks, kh, kf, kl, Jq_rw ?_ eq, Ji_rw ?_ (by omega) eq, ho⟩
  · refine ⟨fun l l0 l1 => ?_, fun l => ?_, fun l => ?_⟩
    · by_cases e : l = S 1 0
      · subst e; simp only [up1_s]; omega
      · simp only [up1_n _ _ e]; exact hl.1 l l0 (by omega)
    · by_cases e : l = S 1 0
      · subst e; right; simp only [up1_s]; exact ⟨trivial, by omega, by omega⟩
      · simp only [up1_n _ _ e]
        rcases hl.2.1 l with q | q
        · exact Or.inl q
        · exact Or.inr ⟨q.1, q.2.1, by omega⟩
    · by_cases e : l = S 1 0
      · subst e; simp only [up1_s]; omega
      · simp only [up1_n _ _ e]; exact hl.2.2 l
  · intro b
    obtain ⟨g1, g2, g3, g4, g5⟩ := hb b
    refine ⟨?_, ?_, g3, g4, g5⟩
    · rcases g1 with q | ⟨q1, q2, q3 | q3⟩
      · exact Or.inl q
      · exact Or.inr ⟨q1, by omega, Or.inl (by rw [hup _ q2]; exact q3)⟩
      · omega
    · rcases g2 with q | ⟨q1, q2, q3 | q3, q4, q5⟩
      · exact Or.inl q
      · exact Or.inr ⟨q1, by omega, Or.inl (by rw [hup _ q2]; exact q3), q4, q5⟩
      · omega
  · intro l l0 l4
    obtain ⟨q1, q4, q5, q6, q7⟩ := hq l l0 l4
    by_cases e : l = S 1 0
    · subst e
      obtain ⟨z1, z2, z3⟩ := hno (S 1 0) (Int.le_refl _) hL4
      simp only [up1_s]
      refine ⟨q1, fun p p0 p1 => by omega, q5, q6, fun q => by omega⟩
    · simp only [up1_n _ _ e]
      exact ⟨q1, q4, q5, q6, q7⟩
  · intro i i0 i1
    rcases hi i i0 i1 with q | ⟨q1, q2, q3⟩
    · exact Or.inl q
    · exact Or.inr ⟨q1, by omega, q3⟩
theorem AI_up1 {S : Mem} {lo : Int → Int} {l : Int} (h : AI S lo (-1)) (l0 : 0 ≤ l) (lL : l < S 1 0) : AI (mw S 9 l 1) lo (-2) := by
  have eo : ∀ r : Nat, r ≠ 9 → mw S 9 l 1 r = S r := fun r a => mw_rn _ _ _ a
  have e9 : mw S 9 l 1 9 = up1 (S 9) l 1 := mw_rs _ _ _ _
  have eq : ∀ l' p, 0 ≤ l' → l' < 4 → qr (mw S 9 l 1) l' p = qr S l' p := fun l' p a b => mwq (by omega) _ _ a b
  obtain ⟨ha, hl, hb, hn, hh, hf, ht, ks, kh, kf, kl, hq, hi, ho⟩ := h
  have hup : ∀ l', S 9 l' = 1 → up1 (S 9) l 1 l' = 1 := fun l' q => by rw [up1_e]; split; rfl; exact q
  unfold AI Ja
  simp only [eo, e9, ne_eq, not_false_eq_true, Nat.reduceEqDiff, Nat.reduceLT, Nat.reduceLeDiff, true_or, or_true, forall_const]
  refine ⟨ha, ⟨hl.1, fun l' => ?_, hl.2.2⟩, ?_, fun q => absurd rfl q, hh, hf, ht, ks, kh, kf, kl, Jq_rw ?_ eq, Ji_rw hi ha.1.2 eq, ho⟩
  · by_cases e : l' = l
    · subst e; right; simp only [up1_s]; exact ⟨trivial, by omega, by omega⟩
    · simp only [up1_n _ _ e]; exact hl.2.1 l'
  · intro b
    obtain ⟨g1, g2, g3, g4, g5⟩ := hb b
    refine ⟨?_, ?_, g3, g4, g5⟩
    · rcases g1 with q | ⟨q1, q2, q3 | q3⟩
      · exact Or.inl q
      · exact Or.inr ⟨q1, q2, Or.inl (hup _ q3)⟩
      · omega
    · rcases g2 with q | ⟨q1, q2, q3 | q3, q4, q5⟩
      · exact Or.inl q
      · exact Or.inr ⟨q1, q2, Or.inl (hup _ q3), q4, q5⟩
      · omega
  · intro l' a b
    obtain ⟨q1, q4, q5, q6, q7⟩ := hq l' a b
    refine ⟨q1, q4, q5, q6, fun q => ?_⟩
    by_cases e : l' = l
    · subst e; rw [up1_s] at q; omega
    · rw [up1_n _ _ e] at q; exact q7 q
def aLink (S : Mem) (s d : Int) : Mem := aTake (aLink0 S s d) (S 1 0) 8
def aBack (S : Mem) (l : Int) : Mem := aTake (mw S 9 l 1) l 8
theorem NI_of {S T : Mem} (h : AI T (fun _ => S 5 0) (-1)) (e : T 5 = S 5) : NI T := by unfold NI; rw [e]; exact h
theorem NI_link {S : Mem} {s d : Int} (h : NI S) (hL4 : S 1 0 < 4) (hs : 1 ≤ s ∧ s ≤ 8) (hd : 1 ≤ d ∧ d ≤ 30) : NI (aLink S s d) := by
  have h1 := AI_link0 h hL4 hs hd
  have hL := h.1.1
  refine NI_of (S := S) (AI_take8 h1 ?_) ?_
  · unfold aLink0; simp only [mw_rs, mw_rn, ne_eq, not_false_eq_true, Nat.reduceEqDiff, Nat.reduceLT, Nat.reduceLeDiff, true_or, or_true, forall_const, up1_s]
  · unfold aLink
    rw [aTake_o _ hL.1 hL4 (by decide) (by decide) (by decide) (by decide) (by decide) (by decide) (by decide) (by omega)]
    unfold aLink0; simp only [mw_rs, mw_rn, ne_eq, not_false_eq_true, Nat.reduceEqDiff, Nat.reduceLT, Nat.reduceLeDiff, true_or, or_true, forall_const]
theorem NI_back {S : Mem} {l : Int} (h : NI S) (l0 : 0 ≤ l) (lL : l < S 1 0) : NI (aBack S l) := by
  have hL := h.1.1
  refine NI_of (S := S) (AI_take8 (AI_up1 h l0 lL) (by rw [mw_rs, up1_s])) ?_
  unfold aBack
  rw [aTake_o _ l0 (by omega) (by decide) (by decide) (by decide) (by decide) (by decide) (by decide) (by decide) (by omega), mw_rn _ _ _ (by decide)]
/-! moves -/
def aCancel (S : Mem) (b : Int) : Mem := aRel (mw S 20 b (-6)) b
theorem AI_to0 {S : Mem} {lo : Int → Int} {x b : Int} (h : AI S lo x) : AI (mw S 20 b (-6)) lo x := by
  refine AI_b h (fun r a1 a2 a3 a4 => mw_rn _ _ _ a2) ?_ ?_ ?_
  · simp only [mw_rs, mw_rn, ne_eq, not_false_eq_true, Nat.reduceEqDiff, Nat.reduceLT, Nat.reduceLeDiff, true_or, or_true, forall_const]
    intro c
    obtain ⟨g1, g2, g3, g4, g5⟩ := h.2.2.1 c
    by_cases e : c = b
    · subst e
      simp only [up1_s]
      exact ⟨g1, Or.inl trivial, g3, g4, fun q => ⟨(g5 q).1, trivial⟩⟩
    · simp only [up1_n _ _ e]
      exact ⟨g1, g2, g3, g4, g5⟩
  · simp only [mw_rn, ne_eq, not_false_eq_true, Nat.reduceEqDiff, Nat.reduceLT, Nat.reduceLeDiff, true_or, or_true, forall_const]
    exact h.2.2.2.1
  · simp only [mw_rn, ne_eq, not_false_eq_true, Nat.reduceEqDiff, Nat.reduceLT, Nat.reduceLeDiff, true_or, or_true, forall_const]
    exact h.2.2.2.2.1
theorem AI_cancel {S : Mem} {lo : Int → Int} {x b : Int} (h : AI S lo x) (hu : S 19 b = -6 ∨ S 9 (S 19 b) = 1) : AI (aCancel S b) lo x := by
  refine AI_rel (AI_to0 h) ?_ ?_
  · simp only [mw_rn, ne_eq, not_false_eq_true, Nat.reduceEqDiff, Nat.reduceLT, Nat.reduceLeDiff, true_or, or_true, forall_const]; exact hu
  · simp only [mw_rn, ne_eq, not_false_eq_true, Nat.reduceEqDiff, Nat.reduceLT, Nat.reduceLeDiff, true_or, or_true, forall_const]; exact (h.2.2.1 b).2.2.2.1
def aMv0 (S : Mem) (b l how : Int) : Mem := mw (mw S 20 b l) 21 b (if how = 1 then 1 else 0)
def aMove (S : Mem) (b l how : Int) : Mem := if how = 2 then aReach (aMv0 S b l how) b l else aSettle (aMv0 S b l how) b
theorem no_held {S : Mem} {lo : Int → Int} {x b : Int} (h : AI S lo x) (hho : S 21 b = 0) (hon : S 19 b ≠ -6) : ∀ i, 0 ≤ i → i < S 4 0 → S 34 i = 0 → S 33 i ≠ b := by
  intro i i0 i1 i2 e
  rcases h.2.2.2.2.1 i i0 i1 i2 with q | q
  · rw [e, hho] at q; omega
  · rw [e] at q; exact hon q
theorem AI_mv0 {S : Mem} {lo : Int → Int} {b l how : Int} (h : AI S lo (-1)) (b0 : 0 ≤ b) (b8 : b < 8) (hu : S 9 l = 1) (hon : S 19 b ≠ -6) (hne : S 19 b ≠ l) (hho : S 21 b = 0) : AI (aMv0 S b l how) lo (-1) := by
  obtain ⟨l0, lL, l4⟩ := AI_up h hu
  have hfree := no_held h hho hon
  unfold aMv0
  refine AI_b h (fun r a1 a2 a3 a4 => by rw [mw_rn _ _ _ a3, mw_rn _ _ _ a2]) ?_ ?_ ?_
  · simp only [mw_rs, mw_rn, ne_eq, not_false_eq_true, Nat.reduceEqDiff, Nat.reduceLT, Nat.reduceLeDiff, true_or, or_true, forall_const]
    intro c
    obtain ⟨g1, g2, g3, g4, g5⟩ := h.2.2.1 c
    by_cases e : c = b
    · subst e
      simp only [up1_s]
      refine ⟨g1, Or.inr ⟨l0, lL, Or.inl hu, hon, Ne.symm hne⟩, ?_, fun _ => hon, fun q => by omega⟩
      split
      · exact Or.inr rfl
      · exact Or.inl rfl
    · simp only [up1_n _ _ e]
      exact ⟨g1, g2, g3, g4, g5⟩
  · simp only [mw_rn, ne_eq, not_false_eq_true, Nat.reduceEqDiff, Nat.reduceLT, Nat.reduceLeDiff, true_or, or_true, forall_const]
    exact h.2.2.2.1
  · simp only [mw_rs, mw_rn, ne_eq, not_false_eq_true, Nat.reduceEqDiff, Nat.reduceLT, Nat.reduceLeDiff, true_or, or_true, forall_const]
    intro i i0 i1 i2
    rw [up1_n _ _ (hfree i i0 i1 i2)]
    exact h.2.2.2.2.1 i i0 i1 i2
theorem NI_move {S : Mem} {b l how : Int} (h : NI S) (b0 : 0 ≤ b) (b8 : b < 8) (hu : S 9 l = 1) (hon : S 19 b ≠ -6) (hne : S 19 b ≠ l) (hho : S 21 b = 0) : NI (aMove S b l how) := by
  obtain ⟨l0, lL, l4⟩ := AI_up h hu
  have h1 := AI_mv0 (how := how) h b0 b8 hu hon hne hho
  have e5 : aMv0 S b l how 5 = S 5 := by unfold aMv0; simp only [mw_rn, ne_eq, not_false_eq_true, Nat.reduceEqDiff, Nat.reduceLT, Nat.reduceLeDiff, true_or, or_true, forall_const]
  have e9 : aMv0 S b l how 9 = S 9 := by unfold aMv0; simp only [mw_rn, ne_eq, not_false_eq_true, Nat.reduceEqDiff, Nat.reduceLT, Nat.reduceLeDiff, true_or, or_true, forall_const]
  have e19 : aMv0 S b l how 19 = S 19 := by unfold aMv0; simp only [mw_rn, ne_eq, not_false_eq_true, Nat.reduceEqDiff, Nat.reduceLT, Nat.reduceLeDiff, true_or, or_true, forall_const]
  unfold aMove
  split
  · refine NI_of (S := S) (AI_reach h1 b0 b8 (by rw [e9]; exact hu) (by rw [e19]; exact hon)) ?_
    rw [aReach_o _ _ _ (by decide) (by decide) (by decide) (by decide) (by decide) (by decide) (by decide) (by decide) (by decide) (by omega) l4, e5]
  · refine NI_of (S := S) (AI_settle h1 b0 b8 (goal_up h1)) ?_
    rw [aSettle_o h1 _ (by decide) (by decide) (by decide) (by decide) (by decide) (by decide) (by decide) (by decide) (by decide) (by omega), e5]
theorem NI_cancel {S : Mem} {b : Int} (h : NI S) : NI (aCancel S b) := by
  have hb := h.2.2.1 b
  have hL := h.1.1
  refine NI_of (S := S) (AI_cancel h ?_) ?_
  · rcases hb.1 with q | ⟨q1, q2, q3 | q3⟩
    · exact Or.inl q
    · exact Or.inr q3
    · omega
  · unfold aCancel
    rw [aRel_o _ _ (by decide) (by decide) (by decide) (by decide) (by decide) (by decide) (by omega) (by rw [mw_rn _ _ _ (by decide)]; omega), mw_rn _ _ _ (by decide)]
end
section
/-! A link fails. -/
def aLo (S : Mem) (l : Int) : Mem :=
  mw (mw (mw (mw (aTurn S (qr S l (S 15 l)) 5) 39 (qr S l (S 15 l)) (S 5 0)) 28 (S 31 (qr S l (S 15 l))) (S 28 (S 31 (qr S l (S 15 l))) + 1)) 16 l (if S 16 l = S 15 l then S 15 l + 1 else S 16 l)) 15 l (S 15 l + 1)
def aLoK (S : Mem) (l : Int) : Nat → Mem
  | 0 => S
  | k + 1 => aLo (aLoK S l k) l
theorem aLo_o (S : Mem) (l : Int) {r : Nat} (h1 : r ≠ 34) (h2 : r ≠ 41) (h3 : r ≠ 39) (h4 : r ≠ 28) (h5 : r ≠ 16) (h6 : r ≠ 15) : aLo S l r = S r := by
  unfold aLo
  rw [mw_rn _ _ _ h6, mw_rn _ _ _ h5, mw_rn _ _ _ h4, mw_rn _ _ _ h3, aTurn_o _ _ _ h1 h2]
theorem aLo_15 (S : Mem) (l : Int) : aLo S l 15 = up1 (S 15) l (S 15 l + 1) := by
  unfold aLo
  rw [mw_rs, mw_rn _ _ _ (by decide), mw_rn _ _ _ (by decide), mw_rn _ _ _ (by decide), aTurn_o _ _ _ (by decide) (by decide)]
theorem aLo_16 (S : Mem) (l : Int) : aLo S l 16 = up1 (S 16) l (if S 16 l = S 15 l then S 15 l + 1 else S 16 l) := by
  unfold aLo
  rw [mw_rn _ _ _ (by decide), mw_rs, mw_rn _ _ _ (by decide), mw_rn _ _ _ (by decide), aTurn_o _ _ _ (by decide) (by decide)]
theorem aLo_34 (S : Mem) (l : Int) : aLo S l 34 = up1 (S 34) (qr S l (S 15 l)) 5 := by
  unfold aLo
  rw [mw_rn _ _ _ (by decide), mw_rn _ _ _ (by decide), mw_rn _ _ _ (by decide), mw_rn _ _ _ (by decide), aTurn_34]
theorem aLo_41 (S : Mem) (l : Int) : aLo S l 41 = up1 (up1 (S 41) (S 34 (qr S l (S 15 l))) (S 41 (S 34 (qr S l (S 15 l))) - 1)) 5 (up1 (S 41) (S 34 (qr S l (S 15 l))) (S 41 (S 34 (qr S l (S 15 l))) - 1) 5 + 1) := by
  unfold aLo
  rw [mw_rn _ _ _ (by decide), mw_rn _ _ _ (by decide), mw_rn _ _ _ (by decide), mw_rn _ _ _ (by decide), aTurn_41]
theorem aLo_39 (S : Mem) (l : Int) : aLo S l 39 = up1 (S 39) (qr S l (S 15 l)) (S 5 0) := by
  unfold aLo
  rw [mw_rn _ _ _ (by decide), mw_rn _ _ _ (by decide), mw_rn _ _ _ (by decide), mw_rs, aTurn_o _ _ _ (by decide) (by decide)]
theorem aLo_28 (S : Mem) (l : Int) : aLo S l 28 = up1 (S 28) (S 31 (qr S l (S 15 l))) (S 28 (S 31 (qr S l (S 15 l))) + 1) := by
  unfold aLo
  rw [mw_rn _ _ _ (by decide), mw_rn _ _ _ (by decide), mw_rs, mw_rn _ _ _ (by decide), aTurn_o _ _ _ (by decide) (by decide)]
theorem Kf_lost {n i : Int} {st fl sent came lost : Int → Int} (h : Kf n st fl sent came lost) (h0 : 0 ≤ i) (h1 : i < n) (hs : st i ≠ 4 ∧ st i ≠ 5) : Kf n (up1 st i 5) fl sent came (up1 lost (fl i) (lost (fl i) + 1)) := by
  intro f h2 h3
  rw [ct_st2 h0 (by omega), ct_st2 h0 (by omega), up1_e]
  have h4 := h f h2 h3
  by_cases e : f = fl i
  · subst e
    simp [hs, h4]
  · simp [e, Ne.symm e, hs, h4]
theorem Kl_lo {n i l1 : Int} {st lk ws qs qe : Int → Int} (h : Kl n st lk ws qs qe) (h0 : 0 ≤ i) (h1 : i < n) (hs : st i = 1) (hq : qs l1 = ws l1) (hl : lk i = l1) : Kl n (up1 st i 5) lk (up1 ws l1 (ws l1 + 1)) (up1 qs l1 (ws l1 + 1)) qe := by
  intro l h2 h3
  have h4 := h l h2 h3
  rw [ct_st2 h0 (by omega), ct_st2 h0 (by omega), up1_e, up1_e, ← h4.1, ← h4.2.1, ← h4.2.2]
  by_cases e : l = l1
  · subst e
    simp [hs, hl]
    omega
  · simp [e, hs, hl, Ne.symm e]
theorem Jq_lo {n tm l1 : Int} {lo st lk ar dl up ws qs qe : Int → Int} {rw : Int → Int → Int} (h : Jq n tm lo st lk ar dl up ws qs qe rw) (a1 : 0 ≤ l1) (b1 : l1 < 4) (hq : qs l1 = ws l1) (hq2 : qs l1 < qe l1) :
    Jq n tm lo (up1 st (rw l1 (ws l1)) 5) lk ar dl up (up1 ws l1 (ws l1 + 1)) (up1 qs l1 (ws l1 + 1)) qe rw := by
  intro l a b
  obtain ⟨⟨q1, q2, q3⟩, q4, q5, q6, q7⟩ := h l a b
  by_cases e : l = l1
  · subst e
    simp only [up1_s]
    have key : ∀ p, 0 ≤ p → p < qe l → p ≠ ws l → rw l p ≠ rw l (ws l) := fun p p0 p1 p2 => by
      by_cases h9 : p < ws l
      · exact q5 p (ws l) p0 h9 (by omega)
      · exact (q5 (ws l) p (by omega) (by omega) p1).symm
    refine ⟨⟨by omega, by omega, by omega⟩, fun p p0 p1 => ?_, q5, fun p p' p0 p1 p2 => by omega, fun q => by have := q7 q; omega⟩
    have h4 := q4 p p0 p1
    by_cases e2 : p = ws l
    · subst e2
      simp only [up1_s]
      exact ⟨h4.1, fun _ => by omega, fun _ _ => by omega, fun _ => by omega⟩
    · have hk := key p p0 p1 e2
      simp only [up1_n _ _ hk]
      exact ⟨h4.1, fun x => h4.2.1 (by omega), fun x y => by omega, fun x => h4.2.2.2 (by omega)⟩
  · obtain ⟨⟨s1, s2, s3⟩, s4, s5, s6, s7⟩ := h l1 a1 b1
    have hi := (s4 (ws l1) (by omega) (by omega)).1.2.2
    have key : ∀ p, 0 ≤ p → p < qe l → rw l p ≠ rw l1 (ws l1) := fun p p0 p1 e2 => by
      have := (q4 p p0 p1).1.2.2
      rw [e2, hi] at this
      omega
    simp only [up1_n _ _ e]
    refine ⟨⟨q1, q2, q3⟩, fun p p0 p1 => ?_, q5, q6, q7⟩
    have hk := key p p0 p1
    simp only [up1_n _ _ hk]
    exact q4 p p0 p1
theorem AI_lo1 {S : Mem} {lo : Int → Int} {x l : Int} (h : AI S lo x) (l0 : 0 ≤ l) (l4 : l < 4) (hw : S 15 l < S 17 l) : AI (aLo S l) lo x := by
  have eo : ∀ r : Nat, r ≠ 34 → r ≠ 41 → r ≠ 39 → r ≠ 28 → r ≠ 16 → r ≠ 15 → aLo S l r = S r := fun r a b c d e f => aLo_o S l a b c d e f
  have eq : ∀ l' p, 0 ≤ l' → l' < 4 → qr (aLo S l) l' p = qr S l' p := fun l' p a b => by
    show aLo S l (11 + l'.toNat) p = _
    rw [eo _ (by omega) (by omega) (by omega) (by omega) (by omega) (by omega)]
  have e16 := aLo_16 S l
  obtain ⟨ha, hl, hb, hn, hh, hf, ht, ks, kh, kf, kl, hq, hi, ho⟩ := h
  obtain ⟨⟨q1, q2, q3⟩, q4, q5, q6, q7⟩ := hq l l0 l4
  obtain ⟨⟨i0, i1, i2⟩, -, i3, i4⟩ := q4 (S 15 l) q1 hw
  have h40 : up1 (up1 (S 41) (S 34 (qr S l (S 15 l))) (S 41 (S 34 (qr S l (S 15 l))) - 1)) 5 (up1 (S 41) (S 34 (qr S l (S 15 l))) (S 41 (S 34 (qr S l (S 15 l))) - 1) 5 + 1) 4 = S 41 4 ↔ S 34 (qr S l (S 15 l)) ≠ 4 := by
    rw [turn_val]
    constructor
    · intro q e
      rw [e] at q
      simp at q
      omega
    · intro q
      rw [if_neg (Ne.symm q), if_neg (by decide)]
      omega
  unfold AI Ja
  by_cases hc : S 16 l = S 15 l
  · have hs := i4 (by omega)
    rw [if_pos hc] at e16
    simp only [eo, aLo_15, e16, aLo_34, aLo_41, aLo_28, ne_eq, not_false_eq_true, Nat.reduceEqDiff, Nat.reduceLT, Nat.reduceLeDiff, true_or, or_true, forall_const]
    exact ⟨ha, hl, hb, hn, Jh_turn hh (by decide), hf, Jt_turn ht (by decide), Ks_turn ks i0 i1, Kh_turn kh i0 i1 (by omega) (by decide), Kf_lost kf i0 i1 (by omega), Kl_lo kl i0 i1 hs hc i2, Jq_rw (Jq_lo hq l0 l4 hc (by omega)) eq, Ji_rw (Ji_turn hi (by omega) (by decide)) ha.1.2 eq, Jo_ins ho (h40.mpr (by omega))⟩
  · have hs := (i3 (Int.le_refl _) (by omega)).1
    rw [if_neg hc, up1_id] at e16
    simp only [eo, aLo_15, e16, aLo_34, aLo_41, aLo_28, ne_eq, not_false_eq_true, Nat.reduceEqDiff, Nat.reduceLT, Nat.reduceLeDiff, true_or, or_true, forall_const]
    exact ⟨ha, hl, hb, hn, Jh_turn hh (by decide), hf, Jt_turn ht (by decide), Ks_turn ks i0 i1, Kh_turn kh i0 i1 (by omega) (by decide), Kf_lost kf i0 i1 (by omega), Kl_arr kl i0 i1 hs (by decide) i2, Jq_rw (Jq_arr hq l0 l4 (by omega) (by decide)) eq, Ji_rw (Ji_turn hi (by omega) (by decide)) ha.1.2 eq, Jo_ins ho (h40.mpr (by omega))⟩
theorem aLoK_o (S : Mem) (l : Int) {r : Nat} (h1 : r ≠ 34) (h2 : r ≠ 41) (h3 : r ≠ 39) (h4 : r ≠ 28) (h5 : r ≠ 16) (h6 : r ≠ 15) : ∀ k, aLoK S l k r = S r
  | 0 => rfl
  | k + 1 => by rw [aLoK, aLo_o _ _ h1 h2 h3 h4 h5 h6, aLoK_o S l h1 h2 h3 h4 h5 h6 k]
theorem aLoK_15 (S : Mem) (l : Int) : ∀ k : Nat, aLoK S l k 15 = up1 (S 15) l (S 15 l + k)
  | 0 => by simp only [aLoK]; rw [show S 15 l + ((0 : Nat) : Int) = S 15 l by omega, up1_id]
  | k + 1 => by
    rw [aLoK, aLo_15, aLoK_15 S l k, up1_up1, up1_s]
    congr 1
    push_cast
    omega
theorem aLoK_16 {S : Mem} {l : Int} (hq : S 15 l ≤ S 16 l) : ∀ k : Nat, aLoK S l k 16 = up1 (S 16) l (if S 16 l < S 15 l + k then S 15 l + k else S 16 l)
  | 0 => by simp only [aLoK]; rw [if_neg (by omega), up1_id]
  | k + 1 => by
    rw [aLoK, aLo_16, aLoK_16 hq k, aLoK_15, up1_up1, up1_s, up1_s]
    congr 1
    push_cast
    split <;> split <;> split <;> omega
theorem AI_loK {S : Mem} {lo : Int → Int} {x l : Int} (h : AI S lo x) (l0 : 0 ≤ l) (l4 : l < 4) : ∀ k : Nat, (k : Int) ≤ S 17 l - S 15 l → AI (aLoK S l k) lo x
  | 0, _ => h
  | k + 1, hk => by
    refine AI_lo1 (AI_loK h l0 l4 k (by omega)) l0 l4 ?_
    rw [aLoK_15, up1_s, aLoK_o S l (by decide) (by decide) (by decide) (by decide) (by decide) (by decide)]
    omega
def loN (S : Mem) (l : Int) : Nat := (S 17 l - S 15 l).toNat
def aLose (S : Mem) (l : Int) : Mem := aLoK S l (loN S l)
/-- the failing link is down, all that it had is lost -/
theorem mw_lo (S : Mem) (l : Int) (v : Int) (j : Int) : aLo (mw S 9 j v) l = mw (aLo S l) 9 j v := by
  have e : ∀ r, r ≠ 9 → mw S 9 j v r = S r := fun r h => mw_rn _ _ _ h
  have eq : qr (mw S 9 j v) l = qr S l := by
    funext p
    show mw S 9 j v (11 + l.toNat) p = _
    rw [mw_rn _ _ _ (by omega)]
  unfold aLo
  rw [e 15 (by decide), e 16 (by decide), e 5 (by decide), e 31 (by decide), e 28 (by decide), eq, mw_turn _ _ _ _ _ (by decide) (by decide), mw_comm _ _ _ _ _ (show (9 : Nat) ≠ 39 by decide), mw_comm _ _ _ _ _ (show (9 : Nat) ≠ 28 by decide), mw_comm _ _ _ _ _ (show (9 : Nat) ≠ 16 by decide), mw_comm _ _ _ _ _ (show (9 : Nat) ≠ 15 by decide)]
theorem mw_loK (S : Mem) (l : Int) (v : Int) (j : Int) : ∀ k, aLoK (mw S 9 j v) l k = mw (aLoK S l k) 9 j v
  | 0 => rfl
  | k + 1 => by rw [aLoK, mw_loK S l v j k, mw_lo]; rfl
theorem mw_lose (S : Mem) (l v j : Int) : aLose (mw S 9 j v) l = mw (aLose S l) 9 j v := by
  unfold aLose loN
  rw [mw_rn _ _ _ (by decide), mw_rn _ _ _ (by decide), mw_loK]
theorem AI_down {S : Mem} {lo : Int → Int} {l : Int} (h : AI S lo (-1)) (hu : S 9 l = 1) : AI (aLose (mw S 9 l 0) l) lo l := by
  obtain ⟨l0, lL, l4⟩ := AI_up h hu
  have hall := h.2.2.2.1 (by decide) ⟨l, hu⟩
  have hq0 := (h.2.2.2.2.2.2.2.2.2.2.2.1 l l0 l4).1
  have h1 := AI_loK h l0 l4 (loN S l) (by unfold loN; omega)
  have eo : ∀ r : Nat, r ≠ 34 → r ≠ 41 → r ≠ 39 → r ≠ 28 → r ≠ 16 → r ≠ 15 → aLoK S l (loN S l) r = S r := fun r a b c d e f => aLoK_o S l a b c d e f _
  have e15 : aLoK S l (loN S l) 15 l = S 17 l := by rw [aLoK_15, up1_s]; unfold loN; omega
  rw [mw_lose]
  show AI (mw (aLoK S l (loN S l)) 9 l 0) lo l
  generalize hT : aLoK S l (loN S l) = T at h1 eo e15
  have er : ∀ r : Nat, r ≠ 9 → mw T 9 l 0 r = T r := fun r a => mw_rn _ _ _ a
  have e9 : mw T 9 l 0 9 = up1 (T 9) l 0 := mw_rs _ _ _ _
  have eq : ∀ l' p, 0 ≤ l' → l' < 4 → qr (mw T 9 l 0) l' p = qr T l' p := fun l' p a b => mwq (by omega) _ _ a b
  obtain ⟨ha, hl, hb, hn, hh, hf, ht, ks, kh, kf, kl, hq, hi, ho⟩ := h1
  unfold AI Ja
  simp only [er, e9, ne_eq, not_false_eq_true, Nat.reduceEqDiff, Nat.reduceLT, Nat.reduceLeDiff, true_or, or_true, forall_const]
  have hup : ∀ l', l' ≠ l → up1 (T 9) l 0 l' = T 9 l' := fun l' q => up1_n _ _ q
  refine ⟨ha, ⟨hl.1, fun l' => ?_, hl.2.2⟩, ?_, ?_, hh, hf, ht, ks, kh, kf, kl, Jq_rw ?_ eq, Ji_rw hi ha.1.2 eq, ho⟩
  · by_cases e : l' = l
    · subst e; left; rw [up1_s]
    · rw [hup _ e]; exact hl.2.1 l'
  · intro b
    obtain ⟨g1, g2, g3, g4, g5⟩ := hb b
    refine ⟨?_, ?_, g3, g4, g5⟩
    · rcases g1 with q | ⟨q1, q2, q3 | q3⟩
      · exact Or.inl q
      · refine Or.inr ⟨q1, q2, ?_⟩
        by_cases e : T 19 b = l
        · exact Or.inr e
        · exact Or.inl (by rw [hup _ e]; exact q3)
      · omega
    · rcases g2 with q | ⟨q1, q2, q3 | q3, q4, q5⟩
      · exact Or.inl q
      · refine Or.inr ⟨q1, q2, ?_, q4, q5⟩
        by_cases e : T 20 b = l
        · exact Or.inr e
        · exact Or.inl (by rw [hup _ e]; exact q3)
      · omega
  · intro _ _ b b0 b8
    rw [eo 19 (by decide) (by decide) (by decide) (by decide) (by decide) (by decide)]
    exact hall b b0 b8
  · intro l' a b
    obtain ⟨q1, q4, q5, q6, q7⟩ := hq l' a b
    refine ⟨q1, q4, q5, q6, fun q => ?_⟩
    by_cases e : l' = l
    · subst e
      rw [e15, eo 17 (by decide) (by decide) (by decide) (by decide) (by decide) (by decide)]
    · rw [hup _ e] at q; exact q7 q
/-! buckets of the failed link -/
def aCan (S : Mem) (l : Int) : Nat → Mem
  | 0 => S
  | k + 1 =>
    let T := aCan S l k
    if T 20 k = l then aCancel T k else T
/-- the link that is up and has the fewest buckets -/
def upF (S : Mem) : Nat → Int
  | 0 => -6
  | k + 1 => if S 9 k = 1 ∧ (upF S k < 0 ∨ ct (is_ (S 19) k) 8 < ct (is_ (S 19) (upF S k)) 8) then k else upF S k
def aMv1 (T : Mem) (b : Int) : Mem :=
  let T1 := mw T 20 b (-6)
  let k := upF T1 (T1 1 0).toNat
  aSettle (mw (mw T1 19 b k) 21 b (if k = -6 then 0 else 1)) b
def aMvs (S : Mem) (l : Int) : Nat → Mem
  | 0 => S
  | k + 1 =>
    let T := aMvs S l k
    if T 19 k = l then aMv1 T k else T
def aFail (S : Mem) (l : Int) : Mem := aMvs (aCan (aLose (mw S 9 l 0) l) l 8) l 8
theorem upF_in (S : Mem) : ∀ k : Nat, upF S k = -6 ∨ (0 ≤ upF S k ∧ upF S k < k ∧ S 9 (upF S k) = 1)
  | 0 => Or.inl rfl
  | k + 1 => by
    unfold upF
    split
    · rename_i hc
      exact Or.inr ⟨by omega, by omega, hc.1⟩
    · rcases upF_in S k with q | q
      · exact Or.inl q
      · exact Or.inr ⟨q.1, by omega, q.2.2⟩
theorem upF_some {S : Mem} {l : Int} (hu : S 9 l = 1) (l0 : 0 ≤ l) : ∀ k : Nat, l < k → upF S k ≠ -6
  | 0, h => by omega
  | k + 1, h => by
    unfold upF
    by_cases e : l = k
    · subst e
      split
      · omega
      · rename_i hc
        rcases upF_in S k with q | q
        · exact absurd ⟨hu, Or.inl (by omega)⟩ hc
        · omega
    · have := upF_some hu l0 k (by omega)
      split
      · omega
      · exact this
theorem aCancel_19 (T : Mem) (b : Int) (h : T 19 b < 4) : aCancel T b 19 = T 19 := by
  unfold aCancel
  rw [aRel_o _ _ (by decide) (by decide) (by decide) (by decide) (by decide) (by decide) (by omega) (by rw [mw_rn _ _ _ (by decide)]; exact h), mw_rn _ _ _ (by decide)]
theorem aCancel_20 (T : Mem) (b : Int) (h : T 19 b < 4) : aCancel T b 20 = up1 (T 20) b (-6) := by
  unfold aCancel
  rw [aRel_o _ _ (by decide) (by decide) (by decide) (by decide) (by decide) (by decide) (by omega) (by rw [mw_rn _ _ _ (by decide)]; exact h), mw_rs]
theorem aCancel_o (T : Mem) (b : Int) (h : T 19 b < 4) {r : Nat} (p2 : r ≠ 20) (q0 : r ≠ 21) (q1 : r ≠ 22) (q2 : r ≠ 17) (q3 : r ≠ 34) (q4 : r ≠ 35) (q5 : r ≠ 41) (q6 : r < 11 ∨ 15 ≤ r) : aCancel T b r = T r := by
  unfold aCancel
  rw [aRel_o _ _ q0 q1 q2 q3 q4 q5 q6 (by rw [mw_rn _ _ _ (by decide)]; exact h), mw_rn _ _ _ p2]
/-- the first round: none is to move to the failed link -/
theorem AI_can {S : Mem} {lo : Int → Int} {l : Int} (h : AI S lo l) (l0 : 0 ≤ l) (hd : S 9 l = 0) : ∀ k : Nat, k ≤ 8 → AI (aCan S l k) lo l ∧ aCan S l k 19 = S 19 ∧ aCan S l k 9 = S 9 ∧ aCan S l k 1 = S 1 ∧ aCan S l k 5 = S 5 ∧ (∀ b : Int, 0 ≤ b → b < k → aCan S l k 20 b ≠ l)
  | 0, _ => ⟨h, rfl, rfl, rfl, rfl, fun b b0 b1 => by omega⟩
  | k + 1, hk => by
    obtain ⟨i1, i2, i3, i4, i5, i6⟩ := AI_can h l0 hd k (by omega)
    have hbk := AI_bk i1 k
    have hJ := i1.2.2.1 k
    unfold aCan
    dsimp only
    split
    · rename_i hc
      have hu : aCan S l k 19 k = -6 ∨ aCan S l k 9 (aCan S l k 19 k) = 1 := by
        rcases hJ.1 with q | ⟨q1, q2, q3 | q3⟩
        · exact Or.inl q
        · exact Or.inr q3
        · rcases hJ.2.1 with w | w
          · omega
          · have := w.2.2.2.2
            omega
      refine ⟨AI_cancel i1 hu, ?_, ?_, ?_, ?_, fun b b0 b1 => ?_⟩
      · rw [aCancel_19 _ _ (by omega)]; exact i2
      · rw [aCancel_o _ _ (by omega) (by decide) (by decide) (by decide) (by decide) (by decide) (by decide) (by decide) (by omega)]; exact i3
      · rw [aCancel_o _ _ (by omega) (by decide) (by decide) (by decide) (by decide) (by decide) (by decide) (by decide) (by omega)]; exact i4
      · rw [aCancel_o _ _ (by omega) (by decide) (by decide) (by decide) (by decide) (by decide) (by decide) (by decide) (by omega)]; exact i5
      · rw [aCancel_20 _ _ (by omega), up1_e]
        split
        · omega
        · exact i6 b b0 (by omega)
    · rename_i hc
      refine ⟨i1, i2, i3, i4, i5, fun b b0 b1 => ?_⟩
      by_cases e : b = k
      · subst e; exact hc
      · exact i6 b b0 (by omega)
theorem aReach_19 (S : Mem) (b l : Int) (hl : l < 4) : aReach S b l 19 = up1 (S 19) b l := by
  unfold aReach
  rw [aRel_o _ _ (by decide) (by decide) (by decide) (by decide) (by decide) (by decide) (by omega) (by rw [aRch0_19, up1_s]; exact hl), aRch0_19]
theorem aReach_20 (S : Mem) (b l : Int) (hl : l < 4) : aReach S b l 20 = up1 (S 20) b (-6) := by
  unfold aReach
  rw [aRel_o _ _ (by decide) (by decide) (by decide) (by decide) (by decide) (by decide) (by omega) (by rw [aRch0_19, up1_s]; exact hl), aRch0_20]
/-- a bucket that has no goal of its own settles where it is -/
theorem aSettle_19 {S : Mem} {lo : Int → Int} {x b : Int} (h : AI S lo x) (ht : S 20 b = -6) : aSettle S b 19 = S 19 ∧ aSettle S b 20 = S 20 := by
  have hg : goal S b = S 19 b := by unfold goal; rw [if_pos ht]
  have hgl := goal_lt (b := b) h
  unfold aSettle
  split
  · rw [aReach_19 _ _ _ hgl, aReach_20 _ _ _ hgl, hg, up1_id]
    refine ⟨rfl, ?_⟩
    rw [← ht, up1_id]
  · exact ⟨rfl, rfl⟩
theorem AI_mv2 {T : Mem} {lo : Int → Int} {l b k : Int} (h : AI T lo l) (b0 : 0 ≤ b) (b8 : b < 8) (l0 : 0 ≤ l) (hd : T 9 l = 0) (hK : upF (mw T 20 b (-6)) (T 1 0).toNat = k) :
    AI (mw (mw (mw T 20 b (-6)) 19 b k) 21 b (if k = -6 then 0 else 1)) lo l ∧ (goal (mw (mw (mw T 20 b (-6)) 19 b k) 21 b (if k = -6 then 0 else 1)) b ≠ -6 → mw (mw (mw T 20 b (-6)) 19 b k) 21 b (if k = -6 then 0 else 1) 9 (goal (mw (mw (mw T 20 b (-6)) 19 b k) 21 b (if k = -6 then 0 else 1)) b) = 1 ∧ mw (mw (mw T 20 b (-6)) 19 b k) 21 b (if k = -6 then 0 else 1) 19 b ≠ -6) := by
  have h1 := AI_to0 (b := b) h
  have hL := h.1.1
  have hk := upF_in (mw T 20 b (-6)) (T 1 0).toNat
  have hr : ∀ r, r ≠ 20 → mw T 20 b (-6) r = T r := fun r a => mw_rn _ _ _ a
  rw [hr 9 (by decide), hK] at hk
  have h2 : AI (mw (mw (mw T 20 b (-6)) 19 b k) 21 b (if k = -6 then 0 else 1)) lo l := by
    refine AI_b h1 (fun r a1 a2 a3 a4 => by rw [mw_rn _ _ _ a3, mw_rn _ _ _ a1]) ?_ ?_ ?_
    · have hJ := h1.2.2.1
      simp only [mw_rs, mw_rn, ne_eq, not_false_eq_true, Nat.reduceEqDiff, Nat.reduceLT, Nat.reduceLeDiff, true_or, or_true, forall_const] at hJ ⊢
      intro c
      obtain ⟨g1, g2, g3, g4, g5⟩ := hJ c
      by_cases e : c = b
      · subst e
        simp only [up1_s] at g1 g2 g3 g4 g5 ⊢
        refine ⟨?_, Or.inl trivial, ?_, ?_, fun q => by omega⟩
        · rcases hk with q | q
          · exact Or.inl q
          · exact Or.inr ⟨q.1, by omega, Or.inl q.2.2⟩
        · split
          · exact Or.inl rfl
          · exact Or.inr rfl
        · split
          · exact fun q => by omega
          · exact fun _ => by assumption
      · simp only [up1_n _ _ e] at g1 g2 g3 g4 g5 ⊢
        exact ⟨g1, g2, g3, g4, g5⟩
    · have hJ := h1.2.2.2.1
      simp only [mw_rs, mw_rn, ne_eq, not_false_eq_true, Nat.reduceEqDiff, Nat.reduceLT, Nat.reduceLeDiff, true_or, or_true, forall_const] at hJ ⊢
      intro hy hx c c0 c8
      rw [up1_e]
      split
      · obtain ⟨l2, hl2⟩ := hx
        have hl3 := AI_up h hl2
        rw [← hK]
        exact upF_some (by rw [hr 9 (by decide)]; exact hl2) hl3.1 _ (by omega)
      · exact hJ hy hx c c0 c8
    · have hJ := h1.2.2.2.2.1
      simp only [mw_rs, mw_rn, ne_eq, not_false_eq_true, Nat.reduceEqDiff, Nat.reduceLT, Nat.reduceLeDiff, true_or, or_true, forall_const] at hJ ⊢
      intro i i0 i1 i2
      by_cases e : T 33 i = b
      · rw [e]
        simp only [up1_s]
        by_cases e2 : k = -6
        · exact Or.inr e2
        · left; rw [if_neg e2]
      · rw [up1_n _ _ e, up1_n _ _ e]
        exact hJ i i0 i1 i2
  have t20 : mw (mw (mw T 20 b (-6)) 19 b k) 21 b (if k = -6 then 0 else 1) 20 = up1 (T 20) b (-6) := by simp only [mw_rs, mw_rn, ne_eq, not_false_eq_true, Nat.reduceEqDiff, Nat.reduceLT, Nat.reduceLeDiff, true_or, or_true, forall_const]
  have t19 : mw (mw (mw T 20 b (-6)) 19 b k) 21 b (if k = -6 then 0 else 1) 19 = up1 (T 19) b k := by simp only [mw_rs, mw_rn, ne_eq, not_false_eq_true, Nat.reduceEqDiff, Nat.reduceLT, Nat.reduceLeDiff, true_or, or_true, forall_const]
  have t9 : mw (mw (mw T 20 b (-6)) 19 b k) 21 b (if k = -6 then 0 else 1) 9 = T 9 := by simp only [mw_rn, ne_eq, not_false_eq_true, Nat.reduceEqDiff, Nat.reduceLT, Nat.reduceLeDiff, true_or, or_true, forall_const]
  refine ⟨h2, fun hg => ?_⟩
  have hg2 : goal (mw (mw (mw T 20 b (-6)) 19 b k) 21 b (if k = -6 then 0 else 1)) b = k := by
    unfold goal
    rw [t20, up1_s, if_pos rfl, t19, up1_s]
  rw [hg2] at hg ⊢
  rw [t9, t19, up1_s]
  rcases hk with q | q
  · exact absurd q hg
  · exact ⟨q.2.2, hg⟩
theorem AI_mv1 {T : Mem} {lo : Int → Int} {l b : Int} (h : AI T lo l) (b0 : 0 ≤ b) (b8 : b < 8) (l0 : 0 ≤ l) (hd : T 9 l = 0) (hon : T 19 b = l) :
    AI (aMv1 T b) lo l ∧ aMv1 T b 19 = up1 (T 19) b (upF (mw T 20 b (-6)) (T 1 0).toNat) ∧ aMv1 T b 20 = up1 (T 20) b (-6) ∧ aMv1 T b 9 = T 9 ∧ aMv1 T b 1 = T 1 ∧ aMv1 T b 5 = T 5 := by
  have hr : ∀ r, r ≠ 20 → mw T 20 b (-6) r = T r := fun r a => mw_rn _ _ _ a
  unfold aMv1
  dsimp only
  rw [hr 1 (by decide)]
  generalize hK : upF (mw T 20 b (-6)) (T 1 0).toNat = k
  obtain ⟨h2, hg⟩ := AI_mv2 h b0 b8 l0 hd hK
  have t20 : mw (mw (mw T 20 b (-6)) 19 b k) 21 b (if k = -6 then 0 else 1) 20 = up1 (T 20) b (-6) := by simp only [mw_rs, mw_rn, ne_eq, not_false_eq_true, Nat.reduceEqDiff, Nat.reduceLT, Nat.reduceLeDiff, true_or, or_true, forall_const]
  have t19 : mw (mw (mw T 20 b (-6)) 19 b k) 21 b (if k = -6 then 0 else 1) 19 = up1 (T 19) b k := by simp only [mw_rs, mw_rn, ne_eq, not_false_eq_true, Nat.reduceEqDiff, Nat.reduceLT, Nat.reduceLeDiff, true_or, or_true, forall_const]
  have t9 : mw (mw (mw T 20 b (-6)) 19 b k) 21 b (if k = -6 then 0 else 1) 9 = T 9 := by simp only [mw_rn, ne_eq, not_false_eq_true, Nat.reduceEqDiff, Nat.reduceLT, Nat.reduceLeDiff, true_or, or_true, forall_const]
  have hs := aSettle_19 (b := b) h2 (by rw [t20, up1_s])
  refine ⟨AI_settle h2 b0 b8 hg, ?_, ?_, ?_, ?_, ?_⟩
  · rw [hs.1, t19]
  · rw [hs.2, t20]
  · rw [aSettle_o h2 _ (by decide) (by decide) (by decide) (by decide) (by decide) (by decide) (by decide) (by decide) (by decide) (by omega), t9]
  · rw [aSettle_o h2 _ (by decide) (by decide) (by decide) (by decide) (by decide) (by decide) (by decide) (by decide) (by decide) (by omega)]; simp only [mw_rn, ne_eq, not_false_eq_true, Nat.reduceEqDiff, Nat.reduceLT, Nat.reduceLeDiff, true_or, or_true, forall_const]
  · rw [aSettle_o h2 _ (by decide) (by decide) (by decide) (by decide) (by decide) (by decide) (by decide) (by decide) (by decide) (by omega)]; simp only [mw_rn, ne_eq, not_false_eq_true, Nat.reduceEqDiff, Nat.reduceLT, Nat.reduceLeDiff, true_or, or_true, forall_const]
theorem AI_mvs {S : Mem} {lo : Int → Int} {l : Int} (h : AI S lo l) (l0 : 0 ≤ l) (hd : S 9 l = 0) (ht : ∀ b, 0 ≤ b → b < 8 → S 20 b ≠ l) : ∀ k : Nat, k ≤ 8 → AI (aMvs S l k) lo l ∧ aMvs S l k 9 = S 9 ∧ aMvs S l k 1 = S 1 ∧ aMvs S l k 5 = S 5 ∧ (∀ b : Int, 0 ≤ b → b < 8 → aMvs S l k 20 b ≠ l) ∧ (∀ b : Int, 0 ≤ b → b < k → aMvs S l k 19 b ≠ l)
  | 0, _ => ⟨h, rfl, rfl, rfl, ht, fun b b0 b1 => by omega⟩
  | k + 1, hk => by
    obtain ⟨i1, i2, i3, i4, i5, i6⟩ := AI_mvs h l0 hd ht k (by omega)
    unfold aMvs
    dsimp only
    split
    · rename_i hc
      obtain ⟨j1, j2, j3, j4, j5, j6⟩ := AI_mv1 i1 (b := k) (by omega) (by omega) l0 (by rw [i2]; exact hd) hc
      refine ⟨j1, by rw [j4, i2], by rw [j5, i3], by rw [j6, i4], fun b b0 b1 => ?_, fun b b0 b1 => ?_⟩
      · rw [j3, up1_e]
        split
        · omega
        · exact i5 b b0 b1
      · rw [j2, up1_e]
        split
        · rcases upF_in (mw (aMvs S l k) 20 k (-6)) (aMvs S l k 1 0).toNat with q | q
          · omega
          · intro e
            have := q.2.2
            rw [e, mw_rn _ _ _ (by decide), i2, hd] at this
            omega
        · exact i6 b b0 (by omega)
    · rename_i hc
      refine ⟨i1, i2, i3, i4, i5, fun b b0 b1 => ?_⟩
      by_cases e : b = k
      · subst e; exact hc
      · exact i6 b b0 (by omega)
theorem NI_fail {S : Mem} {l : Int} (h : NI S) (hu : S 9 l = 1) : NI (aFail S l) := by
  obtain ⟨l0, lL, l4⟩ := AI_up h hu
  have h1 := AI_down h hu
  have e9 : aLose (mw S 9 l 0) l 9 l = 0 := by rw [mw_lose, mw_rs, up1_s]
  have e5 : aLose (mw S 9 l 0) l 5 = S 5 := by rw [mw_lose, mw_rn _ _ _ (by decide)]; exact aLoK_o S l (by decide) (by decide) (by decide) (by decide) (by decide) (by decide) _
  obtain ⟨c1, c2, c3, c4, c5, c6⟩ := AI_can h1 l0 e9 8 (by omega)
  obtain ⟨m1, m2, m3, m4, m5, m6⟩ := AI_mvs c1 l0 (by rw [c3]; exact e9) (fun b b0 b8 => c6 b b0 (by omega)) 8 (by omega)
  refine NI_of (S := S) (AI_x m1 (fun b => ?_) (fun _ => m1.2.2.2.1 (by omega))) ?_
  · have hJ := m1.2.2.1 b
    by_cases hb : 0 ≤ b ∧ b < 8
    · exact ⟨fun q => absurd q (m6 b hb.1 (by omega)), fun q => absurd q (m5 b hb.1 hb.2)⟩
    · obtain ⟨t1, t2⟩ := hJ.2.2.2.2 (by omega)
      refine ⟨fun q => ?_, fun q => ?_⟩
      · have : l = -6 := q.symm.trans t1
        omega
      · have : l = -6 := q.symm.trans t2
        omega
  · show aMvs (aCan (aLose (mw S 9 l 0) l) l 8) l 8 5 = S 5
    rw [m4, c5, e5]
end
section
/-! The class's Traffic, walked: sending, links, moves, failing. -/
theorem ok_post {d : Nat} {M : Mem} {lo : Int → Int} {f : Int} {P : PV → Mem → Prop} (h : AI M lo (-1)) (f0 : 0 ≤ f) (f1 : f < M 3 0) (hn4 : M 4 0 < 400) (hP : P none (aPost M f)) : gOk mX5_post (d + 2) [vR 5, vI f] M P := by
  have hF := h.1.2.1
  have hn := h.1.2.2.1
  obtain ⟨b0, b8⟩ := bkO_in h f0 (by omega)
  have hff := h.2.2.2.2.2.1 f
  have ha := h.1.2.2.2.2.2
  generalize hb : bkO M f = b at b0 b8
  have hbk := AI_bk h b
  have hJb := h.2.2.1 b
  have hkh := h.2.2.2.2.2.2.2.2.1 b b0 b8
  have hnn := ct_nn (fun j => decide (M 34 j = 0 ∧ M 33 j = b)) (M 4 0).toNat
  unfold aPost at hP
  rw [hb] at hP
  refine gOk_of mX5_post_ok (by simp) (Nat.le_of_ble_eq_true rfl) ?_
  repeat (refine gV_s rfl (by first | exact trivial | omega) ?_)
  refine gV_it rfl (by unfold rng; omega) hn4 ?_
  repeat (refine gV_s rfl (by first | exact trivial | omega) ?_)
  refine gV_cV (ok_bucketOf (d := d + 1) (P := fun r M' => r = vI b ∧ M' = M) f0 (by omega) ha.1 ha.2.1 (by unfold rng; omega) ⟨by rw [hb], rfl⟩) mX1_bucketOf_ok sX5_X1_bucketOf rfl rfl rfl rfl rfl rfl ?_
  rintro r M' ⟨rfl, rfl⟩
  repeat (refine gV_s rfl (by first | exact trivial | omega) ?_)
  refine gV_cV (ok_letterAdd (d := d + 1) (P := fun r M'' => r = vI (M' 4 0) ∧ M'' = aAdd M' f (M' 26 f) b (M' 5 0)) hn.1 hn4 ⟨rfl, rfl⟩) mX2_add_ok sX5_X2_add rfl rfl rfl rfl rfl rfl ?_
  rintro r M'' ⟨rfl, rfl⟩
  have e26 : aAdd M' f (M' 26 f) b (M' 5 0) 26 = M' 26 := by unfold aAdd; simp only [mw_rn, ne_eq, not_false_eq_true, Nat.reduceEqDiff, Nat.reduceLT, Nat.reduceLeDiff, true_or, or_true, forall_const]
  have eo : ∀ r, r = 19 ∨ r = 21 ∨ r = 22 → mw (aAdd M' f (M' 26 f) b (M' 5 0)) 26 f (aAdd M' f (M' 26 f) b (M' 5 0) 26 f + 1) r = M' r := by
    rintro r (rfl | rfl | rfl) <;> (unfold aAdd; simp only [mw_rn, ne_eq, not_false_eq_true, Nat.reduceEqDiff, Nat.reduceLT, Nat.reduceLeDiff, true_or, or_true, forall_const])
  have eT : mw (aAdd M' f (M' 26 f) b (M' 5 0)) 26 f (aAdd M' f (M' 26 f) b (M' 5 0) 26 f + 1) = aPost0 M' f := by
    unfold aPost0
    rw [hb, e26]
  have e34 : aPost0 M' f 34 (M' 4 0) = 0 := by unfold aPost0 aAdd; simp only [mw_rs, mw_rn, ne_eq, not_false_eq_true, Nat.reduceEqDiff, Nat.reduceLT, Nat.reduceLeDiff, true_or, or_true, forall_const, up1_s]
  have e17 : aPost0 M' f 17 = M' 17 := by unfold aPost0 aAdd; simp only [mw_rn, ne_eq, not_false_eq_true, Nat.reduceEqDiff, Nat.reduceLT, Nat.reduceLeDiff, true_or, or_true, forall_const]
  repeat (refine gV_s rfl (by first | exact trivial | omega) ?_)
  rw [eo 21 (by omega)]
  have hold : ∀ (st : List PV), gV mX5_post (d + 2) P 97 [vR 5, vI f, vI b, vI (M' 4 0)] [] (mw (aAdd M' f (M' 26 f) b (M' 5 0)) 26 f (aAdd M' f (M' 26 f) b (M' 5 0) 26 f + 1)) ∨ True := fun _ => Or.inr trivial
  refine gV_i rfl (by unfold rng; omega) (fun h1 => ?_) (fun h1 => ?_)
  · repeat (refine gV_s rfl (by first | exact trivial | omega) ?_)
    rw [eo 19 (by omega)]
    refine gV_i rfl (by unfold rng; omega) (fun h2 => ?_) (fun h2 => ?_)
    · rw [if_pos (Or.inr (Or.inl h2))] at hP
      repeat (refine gV_s rfl (by first | exact trivial | omega) ?_)
      refine gV_retv rfl trivial ?_
      have e : mw (mw (aAdd M' f (M' 26 f) b (M' 5 0)) 26 f (aAdd M' f (M' 26 f) b (M' 5 0) 26 f + 1)) 22 b (mw (aAdd M' f (M' 26 f) b (M' 5 0)) 26 f (aAdd M' f (M' 26 f) b (M' 5 0) 26 f + 1) 22 b + 1) = aNew M' f b := by
        rw [eo 22 (by omega), e26]; rfl
      rw [e]
      exact hP
    · repeat (refine gV_s rfl (by first | exact trivial | omega) ?_)
      rw [eo 22 (by omega)]
      refine gV_i rfl (by rw [hkh]; unfold rng; omega) (fun h3 => ?_) (fun h3 => ?_)
      · rw [if_neg (by omega)] at hP
        have hu : M' 9 (M' 19 b) = 1 := by rcases hJb.1 with q | ⟨q1, q2, q3 | q3⟩ <;> first | exact q3 | omega
        obtain ⟨l0, lL, l4⟩ := AI_up h hu
        have hq := (h.2.2.2.2.2.2.2.2.2.2.2.1 _ l0 l4).1
        have hkl := (h.2.2.2.2.2.2.2.2.2.2.1 _ l0 l4).1
        have hnn2 := ct_nn (fun j => decide (M' 35 j = M' 19 b)) (M' 4 0).toNat
        repeat (refine gV_s rfl (by first | exact trivial | omega) ?_)
        rw [eo 19 (by omega), eT]
        refine gV_cV (ok_enqueue (d := d) (P := fun r M'' => r = none ∧ M'' = aEnq (aPost0 M' f) (M' 4 0) (M' 19 b)) hn.1 hn4 l0 l4 (by rw [e17]; omega) (by rw [e17]; omega) (by rw [e34]; omega) ⟨rfl, rfl⟩) mX5_enqueue_ok sX5_X5_enqueue rfl rfl rfl rfl rfl rfl ?_
        rintro r M'' ⟨rfl, rfl⟩
        exact gV_retv rfl trivial hP
      · rw [if_pos (Or.inr (Or.inr (by omega)))] at hP
        repeat (refine gV_s rfl (by first | exact trivial | omega) ?_)
        refine gV_retv rfl trivial ?_
        have e : mw (mw (aAdd M' f (M' 26 f) b (M' 5 0)) 26 f (aAdd M' f (M' 26 f) b (M' 5 0) 26 f + 1)) 22 b (mw (aAdd M' f (M' 26 f) b (M' 5 0)) 26 f (aAdd M' f (M' 26 f) b (M' 5 0) 26 f + 1) 22 b + 1) = aNew M' f b := by
          rw [eo 22 (by omega), e26]; rfl
        rw [e]
        exact hP
  · rw [if_pos (Or.inl h1)] at hP
    repeat (refine gV_s rfl (by first | exact trivial | omega) ?_)
    refine gV_retv rfl trivial ?_
    have e : mw (mw (aAdd M' f (M' 26 f) b (M' 5 0)) 26 f (aAdd M' f (M' 26 f) b (M' 5 0) 26 f + 1)) 22 b (mw (aAdd M' f (M' 26 f) b (M' 5 0)) 26 f (aAdd M' f (M' 26 f) b (M' 5 0) 26 f + 1) 22 b + 1) = aNew M' f b := by
      rw [eo 22 (by omega), e26]; rfl
    rw [e]
    exact hP
theorem take_loop {d : Nat} {S : Mem} {lo : Int → Int} {l : Int} {P : PV → Mem → Prop} (h : AI S lo (-2)) (hu : S 9 l = 1) (hP : P (vI (ct (is_ (S 19) (-6)) 8)) (aTake S l 8)) : ∀ (n k : Nat), k + n = 8 → gV mX5_takeIn (d + 3) P 7 [vR 5, vI l, vI (ct (is_ (S 19) (-6)) k), vI k] [vI 8, vI k] (aTake S l k)
  | 0, k, hk => by
    have e : k = 8 := by omega
    subst e
    refine gV_it rfl (by unfold rng; omega) (show (8 : Int) ≤ _ by omega) ?_
    repeat (refine gV_s rfl (by first | exact trivial | omega) ?_)
    exact gV_ret rfl trivial hP
  | n + 1, k, hk => by
    obtain ⟨l0, lL, l4⟩ := AI_up h hu
    have hS := AI_take h hu k (by omega)
    have hbk := AI_bk hS k
    have e9 : aTake S l k 9 = S 9 := aTake_o S l0 l4 (by decide) (by decide) (by decide) (by decide) (by decide) (by decide) (by decide) (by omega) k
    have e19 : aTake S l k 19 k = S 19 k := by rw [aTake_19 S l0 l4, if_neg (by omega)]
    have ih := take_loop (d := d) h hu hP n (k + 1) (by omega)
    have step : aTake S l (k + 1) = if aTake S l k 19 k = -6 then aRel (mw (aTake S l k) 19 k l) k else aTake S l k := rfl
    rw [step, ct_s _ k] at ih
    refine gV_in rfl (by unfold rng; omega) (show ¬ (8 : Int) ≤ _ by omega) ?_
    repeat (refine gV_s rfl (by first | exact trivial | omega) ?_)
    refine gV_i rfl (by unfold rng; omega) (fun h1 => ?_) (fun h1 => ?_)
    · rw [if_pos h1, if_pos (by rw [e19] at h1; simpa using h1)] at ih
      repeat (refine gV_s rfl (by first | exact trivial | omega) ?_)
      refine gV_cV (ok_release (d := d) (P := fun r M' => (∃ v, r = vI v) ∧ M' = aRel (mw (aTake S l k) 19 k l) k) (M := mw (aTake S l k) 19 k l) hS (Ex.skip1 Ex.rf (by decide)) (by omega) (by omega) (Or.inr (by rw [mw_rs, up1_s, e9]; exact hu)) ⟨⟨_, rfl⟩, rfl⟩) mX5_release_ok sX5_X5_release rfl rfl rfl rfl rfl rfl ?_
      rintro r M' ⟨⟨v, rfl⟩, rfl⟩
      repeat (refine gV_s rfl (by first | exact trivial | omega) ?_)
      exact ih
    · rw [if_neg h1, if_neg (by rw [e19] at h1; simpa using h1), Int.add_zero] at ih
      repeat (refine gV_s rfl (by first | exact trivial | omega) ?_)
      exact ih
theorem ok_takeIn {d : Nat} {M : Mem} {lo : Int → Int} {l : Int} {P : PV → Mem → Prop} (h : AI M lo (-2)) (hu : M 9 l = 1) (hP : P (vI (ct (is_ (M 19) (-6)) 8)) (aTake M l 8)) : gOk mX5_takeIn (d + 3) [vR 5, vI l] M P := by
  refine gOk_of mX5_takeIn_ok (by simp) (Nat.le_of_ble_eq_true rfl) ?_
  repeat (refine gV_s rfl (by first | exact trivial | omega) ?_)
  exact take_loop h hu hP 8 0 rfl
theorem ok_cancel {d : Nat} {M : Mem} {lo : Int → Int} {x b : Int} {P : PV → Mem → Prop} (h : AI M lo x) (b0 : 0 ≤ b) (b8 : b < 8) (hon : M 19 b = -6 ∨ M 9 (M 19 b) = 1) (hP : P (vI (M 22 b)) (aCancel M b)) : gOk mX5_cancelMove (d + 3) [vR 5, vI b] M P := by
  refine gOk_of mX5_cancelMove_ok (by simp) (Nat.le_of_ble_eq_true rfl) ?_
  repeat (refine gV_s rfl (by first | exact trivial | omega) ?_)
  refine gV_cV (ok_release (d := d) (P := fun r M' => r = vI (M 22 b) ∧ M' = aCancel M b) (M := mw M 20 b (-6)) h (Ex.skip1 Ex.rf (by decide)) b0 b8 (by rw [mw_rn _ _ _ (by decide)]; exact hon) ⟨by rw [mw_rn _ _ _ (by decide)], rfl⟩) mX5_release_ok sX5_X5_release rfl rfl rfl rfl rfl rfl ?_
  rintro r M' ⟨rfl, rfl⟩
  exact gV_ret rfl trivial hP
theorem ok_startMove {d : Nat} {M : Mem} {lo : Int → Int} {b l how : Int} (h : AI M lo (-1)) (b0 : 0 ≤ b) (b8 : b < 8) (hu : M 9 l = 1) (hon : M 19 b ≠ -6) (hne : M 19 b ≠ l) (hho : M 21 b = 0) (hh : 0 ≤ how ∧ how ≤ 2) : gOk mX5_startMove (d + 5) [vR 5, vI b, vI l, vI how] M (yn (aMove M b l how 20 b = -6) (aMove M b l how)) := by
  have h1 := AI_mv0 (how := how) h b0 b8 hu hon hne hho
  have e9 : aMv0 M b l how 9 = M 9 := by unfold aMv0; simp only [mw_rn, ne_eq, not_false_eq_true, Nat.reduceEqDiff, Nat.reduceLT, Nat.reduceLeDiff, true_or, or_true, forall_const]
  have e19 : aMv0 M b l how 19 = M 19 := by unfold aMv0; simp only [mw_rn, ne_eq, not_false_eq_true, Nat.reduceEqDiff, Nat.reduceLT, Nat.reduceLeDiff, true_or, or_true, forall_const]
  have fin : gV mX5_startMove (d + 5) (yn (aMove M b l how 20 b = -6) (aMove M b l how)) 48 [vR 5, vI b, vI l, vI how] [] (aMove M b l how) := by
    have hN : AI (aMove M b l how) lo (-1) := by
      unfold aMove
      split
      · exact AI_reach h1 b0 b8 (by rw [e9]; exact hu) (by rw [e19]; exact hon)
      · exact AI_settle h1 b0 b8 (goal_up h1)
    have hbk := AI_bk hN b
    repeat (refine gV_s rfl (by first | exact trivial | omega) ?_)
    refine gV_i rfl (by unfold rng; omega) (fun h2 => ?_) (fun h2 => ?_)
    · repeat (refine gV_s rfl (by first | exact trivial | omega) ?_)
      exact gV_ret rfl (Or.inr rfl) ⟨rfl, Or.inl ⟨h2, rfl⟩⟩
    · repeat (refine gV_s rfl (by first | exact trivial | omega) ?_)
      exact gV_ret rfl (Or.inl rfl) ⟨rfl, Or.inr ⟨h2, rfl⟩⟩
  have mid : ∀ v : Int, v = (if how = 1 then 1 else 0) → gV mX5_startMove (d + 5) (yn (aMove M b l how 20 b = -6) (aMove M b l how)) 28 [vR 5, vI b, vI l, vI how] [vI v, vI b, vR 21] (mw M 20 b l) := by
    intro v hv
    have hv2 : v = 0 ∨ v = 1 := by rw [hv]; split; exact Or.inr rfl; exact Or.inl rfl
    refine gV_s rfl ⟨⟨b0, b8⟩, hv2⟩ ?_
    have e0 : mw (mw M 20 b l) 21 b v = aMv0 M b l how := by rw [hv]; rfl
    rw [e0]
    repeat (refine gV_s rfl (by first | exact trivial | omega) ?_)
    refine gV_i rfl (by unfold rng; omega) (fun h2 => ?_) (fun h2 => ?_)
    · have e : aMove M b l how = aReach (aMv0 M b l how) b l := by unfold aMove; rw [if_pos h2]
      repeat (refine gV_s rfl (by first | exact trivial | omega) ?_)
      refine gV_cV (ok_reach (d := d + 1) (P := fun r M' => r = none ∧ M' = aMove M b l how) h1 b0 b8 (by rw [e9]; exact hu) (by rw [e19]; exact hon) ⟨rfl, e.symm⟩) mX5_reach_ok sX5_X5_reach rfl rfl rfl rfl rfl rfl ?_
      rintro r M' ⟨rfl, rfl⟩
      refine gV_s rfl trivial ?_
      exact fin
    · have e : aMove M b l how = aSettle (aMv0 M b l how) b := by unfold aMove; rw [if_neg h2]
      repeat (refine gV_s rfl (by first | exact trivial | omega) ?_)
      refine gV_cV (ok_settle (d := d) (P := fun r M' => r = none ∧ M' = aMove M b l how) h1 b0 b8 (goal_up h1) ⟨rfl, e.symm⟩) mX5_settle_ok sX5_X5_settle rfl rfl rfl rfl rfl rfl ?_
      rintro r M' ⟨rfl, rfl⟩
      exact fin
  refine gOk_of mX5_startMove_ok (by simp) (Nat.le_of_ble_eq_true rfl) ?_
  repeat (refine gV_s rfl (by first | exact trivial | omega) ?_)
  refine gV_i rfl (by unfold rng; omega) (fun h2 => ?_) (fun h2 => ?_)
  · refine gV_s rfl trivial (gV_s rfl trivial ?_)
    exact mid 1 (by rw [if_pos h2])
  · refine gV_s rfl trivial ?_
    exact mid 0 (by rw [if_neg h2])
/-! failing -/
theorem few_loop {d : Nat} {M : Mem} {lo : Int → Int} {x : Int} {P : PV → Mem → Prop} (h : AI M lo x) (hP : P (vI (upF M (M 1 0).toNat)) M) : ∀ (n k : Nat) (z : PV), (k : Int) + n = M 1 0 →
    gV mX5_upLinkWithFewestBuckets (d + 1) P 16 [vR 5, vI (upF M k), vI (if upF M k < 0 then 9 else ct (is_ (M 19) (upF M k)) 8), vI k, z] [vI (M 1 0), vI k] M
  | 0, k, z, hk => by
    have hL := h.1.1
    have e : k = (M 1 0).toNat := by omega
    subst e
    refine gV_it rfl (by unfold rng; omega) (by omega) ?_
    repeat (refine gV_s rfl (by first | exact trivial | omega) ?_)
    exact gV_ret rfl trivial hP
  | n + 1, k, z, hk => by
    have hL := h.1.1
    have ih := few_loop (d := d) h hP n (k + 1)
    have hup := h.2.1.2.1 k
    have n1 := ct_nn (is_ (M 19) k) 8
    have n2 := ct_nn (is_ (M 19) (upF M k)) 8
    have hin := upF_in M k
    have step : upF M (k + 1) = if M 9 k = 1 ∧ (upF M k < 0 ∨ ct (is_ (M 19) k) 8 < ct (is_ (M 19) (upF M k)) 8) then (k : Int) else upF M k := rfl
    rw [step] at ih
    refine gV_in rfl (by unfold rng; omega) (by omega) ?_
    repeat (refine gV_s rfl (by first | exact trivial | omega) ?_)
    refine gV_cV (ok_howMany (d := d) (P := fun r M' => r = vI (ct (is_ (M 19) k) 8) ∧ M' = M) (by unfold rng; omega) (fun b => by have := AI_bk h b; unfold rng; omega) ⟨rfl, rfl⟩) mX0_howManyOn_ok sX5_X0_howManyOn rfl rfl rfl rfl rfl rfl ?_
    rintro r M' ⟨rfl, rfl⟩
    repeat (refine gV_s rfl (by first | exact trivial | omega) ?_)
    refine gV_i rfl (by unfold rng; omega) (fun h1 => ?_) (fun h1 => ?_)
    · rw [if_neg (fun q => by omega)] at ih
      repeat (refine gV_s rfl (by first | exact trivial | omega) ?_)
      exact ih _ (by push_cast; omega)
    · repeat (refine gV_s rfl (by first | exact trivial | omega) ?_)
      refine gV_i rfl ?_ (fun h2 => ?_) (fun h2 => ?_)
      · unfold rng; split <;> omega
      · rw [if_neg (fun q => by split at h2 <;> omega)] at ih
        repeat (refine gV_s rfl (by first | exact trivial | omega) ?_)
        exact ih _ (by push_cast; omega)
      · rw [if_pos ⟨by omega, by split at h2 <;> omega⟩, if_neg (by omega)] at ih
        repeat (refine gV_s rfl (by first | exact trivial | omega) ?_)
        exact ih _ (by push_cast; omega)
theorem ok_few {d : Nat} {M : Mem} {lo : Int → Int} {x : Int} {P : PV → Mem → Prop} (h : AI M lo x) (hP : P (vI (upF M (M 1 0).toNat)) M) : gOk mX5_upLinkWithFewestBuckets (d + 1) [vR 5] M P := by
  have hL := h.1.1
  refine gOk_of mX5_upLinkWithFewestBuckets_ok (by simp) (Nat.le_of_ble_eq_true rfl) ?_
  repeat (refine gV_s rfl (by first | exact trivial | omega) ?_)
  exact few_loop h hP (M 1 0).toNat 0 none (by omega)
theorem lose_loop {d : Nat} {S : Mem} {lo : Int → Int} {x l e : Int} {P : PV → Mem → Prop} (h : AI S lo x) (l0 : 0 ≤ l) (l4 : l < 4) (he : e = S 17 l) {R9 : Int → Int} (hP : ∀ T, Ex [9] T (aLose S l) → T 9 = R9 → P (vI (S 17 l - S 15 l)) T) :
    ∀ (n j : Nat) (Mj : Mem) (z : PV), j + n = loN S l → Ex [9, 15, 16] Mj (aLoK S l j) → Mj 15 = S 15 → Mj 16 = S 16 → Mj 9 = R9 →
      gV mX5_loseLetters (d + 1) P 26 [vR 5, vI l, vI (S 15 l), vI e, vI (S 15 l + j), z] [vI e, vI (S 15 l + j)] Mj
  | 0, j, Mj, z, hj, hE, e15, e16, e9r => by
    have hq := (h.2.2.2.2.2.2.2.2.2.2.2.1 l l0 l4).1
    have h5 := h.1.2.2.1
    have h6 := (h.2.2.2.2.2.2.2.2.2.2.1 l l0 l4).1
    have h7 := ct_nn (fun j => decide (S 35 j = l)) (S 4 0).toNat
    have hjN : j = loN S l := by omega
    have hjv : (j : Int) = S 17 l - S 15 l := by rw [hjN]; unfold loN; omega
    refine gV_it rfl (by unfold rng; omega) (by omega) ?_
    repeat (refine gV_s rfl (by first | exact trivial | omega) ?_)
    refine gV_ret rfl trivial ?_
    have hm : Ex [9] (mw (mw Mj 15 l e) 16 l e) (aLose S l) := by
      unfold aLose
      rw [← hjN]
      intro r hr
      have hr : r ≠ 9 := by simpa using hr
      by_cases a : r = 16
      · subst a
        rw [mw_rs, mw_rn _ _ _ (by decide), e16, aLoK_16 hq.2.1, he]
        congr 1
        split <;> omega
      · by_cases b : r = 15
        · subst b
          rw [mw_rn _ _ _ (by decide), mw_rs, e15, aLoK_15, he]
          congr 1
          omega
        · rw [mw_rn _ _ _ a, mw_rn _ _ _ b]
          exact hE r (by simp [a, b, hr])
    have hm9 : mw (mw Mj 15 l e) 16 l e 9 = R9 := by rw [mw_rn _ _ _ (by decide), mw_rn _ _ _ (by decide)]; exact e9r
    have := hP _ hm hm9
    rw [← he] at this
    exact this
  | n + 1, j, Mj, z, hj, hE, e15, e16, e9r => by
    have hq := (h.2.2.2.2.2.2.2.2.2.2.2.1 l l0 l4).1
    have h5 := h.1.2.2.1
    have h6 := (h.2.2.2.2.2.2.2.2.2.2.1 l l0 l4).1
    have h7 := ct_nn (fun j => decide (S 35 j = l)) (S 4 0).toNat
    have hN : ((loN S l : Nat) : Int) = S 17 l - S 15 l := by unfold loN; omega
    have hS := AI_loK h l0 l4 j (by omega)
    have hSo : ∀ r, r ≠ 34 → r ≠ 41 → r ≠ 39 → r ≠ 28 → r ≠ 16 → r ≠ 15 → aLoK S l j r = S r := fun r a b c d e f => aLoK_o S l a b c d e f j
    have hrow : Mj (9 + 2 + l.toNat) = aLoK S l j (11 + l.toNat) := hE (11 + l.toNat) (by simp; omega)
    have hS15 : aLoK S l j 15 l = S 15 l + j := by rw [aLoK_15, up1_s]
    obtain ⟨g1, g2, g3, g4⟩ := (hS.2.2.2.2.2.2.2.2.2.2.2.1 l l0 l4).2.1 (S 15 l + j) (by omega) (by rw [hSo 17 (by decide) (by decide) (by decide) (by decide) (by decide) (by decide)]; omega)
    have g5 := g1.2.1
    rw [hSo 4 (by decide) (by decide) (by decide) (by decide) (by decide) (by decide)] at g5
    have hb1 : 0 ≤ Mj (9 + 2 + l.toNat) (S 15 l + j) ∧ Mj (9 + 2 + l.toNat) (S 15 l + j) < 400 := by
      rw [hrow]
      exact ⟨g1.1, Int.lt_of_lt_of_le g5 h5.2⟩
    have hst : 0 ≤ Mj 34 (Mj (9 + 2 + l.toNat) (S 15 l + j)) ∧ Mj 34 (Mj (9 + 2 + l.toNat) (S 15 l + j)) ≤ 5 := by
      rw [hE 34 (by simp)]
      exact (hS.2.2.2.2.2.2.1 _).2.2.2.1
    refine gV_in rfl (by unfold rng; omega) (by omega) ?_
    repeat (refine gV_s rfl (by first | exact trivial | omega) ?_)
    refine gV_iald rfl (shp_row l0 l4) (by decide) ⟨by omega, by omega⟩ ?_
    generalize hi : Mj (9 + 2 + l.toNat) (S 15 l + j) = i at hb1 hst
    repeat (refine gV_s rfl (by first | exact trivial | omega) ?_)
    refine gV_cV (ok_turn (d := d) (P := fun r M' => r = none ∧ M' = aTurn Mj i 5) hb1.1 hb1.2 (by omega) hst ⟨rfl, rfl⟩) mX2_turn_ok sX5_X2_turn rfl rfl rfl rfl rfl rfl ?_
    rintro r M' ⟨rfl, rfl⟩
    have hfl : 0 ≤ Mj 31 i ∧ Mj 31 i < 16 := by
      rw [hE 31 (by simp)]
      have := (hS.2.2.2.2.2.2.1 i).1
      exact ⟨this.1, this.2.1⟩
    have et5 : aTurn Mj i 5 5 = Mj 5 := aTurn_o _ _ _ (by decide) (by decide)
    have et31 : mw (aTurn Mj i 5) 39 i (aTurn Mj i 5 5 0) 31 = Mj 31 := by rw [mw_rn _ _ _ (by decide), aTurn_o _ _ _ (by decide) (by decide)]
    repeat (refine gV_s rfl (by first | exact trivial | omega) ?_)
    rw [et31]
    repeat (refine gV_s rfl (by first | exact trivial | omega) ?_)
    have ih := lose_loop (d := d) h l0 l4 he hP n (j + 1) (mw (mw (aTurn Mj i 5) 39 i (aTurn Mj i 5 5 0)) 28 (Mj 31 i) (mw (aTurn Mj i 5) 39 i (aTurn Mj i 5 5 0) 28 (Mj 31 i) + 1)) (vI i) (by omega) ?_ ?_ ?_ ?_
    · have e9 : S 15 l + ((j + 1 : Nat) : Int) = S 15 l + j + 1 := by push_cast; omega
      rw [e9] at ih
      exact ih
    · have hqi : qr (aLoK S l j) l (aLoK S l j 15 l) = i := by
        rw [hS15, ← hi, hrow]
      rw [aLoK]
      unfold aLo
      rw [hqi]
      refine Ex.skip (Ex.skip (Ex.w (Ex.w (Ex.turn hE (by decide) (by decide) rfl) rfl ?_) ?_ ?_) (by decide)) (by decide)
      · rw [et5, hE 5 (by decide)]
      · rw [hE 31 (by decide)]
      · rw [mw_rn _ _ _ (by decide), aTurn_o _ _ _ (by decide) (by decide), hE 28 (by decide), hE 31 (by decide)]
    · rw [mw_rn _ _ _ (by decide), mw_rn _ _ _ (by decide), aTurn_o _ _ _ (by decide) (by decide)]
      exact e15
    · rw [mw_rn _ _ _ (by decide), mw_rn _ _ _ (by decide), aTurn_o _ _ _ (by decide) (by decide)]
      exact e16
    · rw [mw_rn _ _ _ (by decide), mw_rn _ _ _ (by decide), aTurn_o _ _ _ (by decide) (by decide)]
      exact e9r
theorem ok_lose {d : Nat} {S M : Mem} {lo : Int → Int} {x l : Int} {P : PV → Mem → Prop} (h : AI S lo x) (hE : Ex [9] M S) (l0 : 0 ≤ l) (l4 : l < 4) (hP : ∀ T, Ex [9] T (aLose S l) → T 9 = M 9 → P (vI (S 17 l - S 15 l)) T) : gOk mX5_loseLetters (d + 1) [vR 5, vI l] M P := by
  refine gOk_of mX5_loseLetters_ok (by simp) (Nat.le_of_ble_eq_true rfl) ?_
  repeat (refine gV_s rfl (by first | exact trivial | omega) ?_)
  rw [hE 15 (by decide), hE 17 (by decide)]
  have := lose_loop (d := d) (P := P) h l0 l4 rfl hP (loN S l) 0 M none (by omega) (fun r hr => hE r (by simp at hr; simp [hr])) (hE 15 (by decide)) (hE 16 (by decide)) rfl
  rw [show S 15 l + ((0 : Nat) : Int) = S 15 l by omega] at this
  exact this
theorem can_loop {d : Nat} {S : Mem} {lo : Int → Int} {l : Int} {w : PV} {P : PV → Mem → Prop} (h : AI S lo l) (l0 : 0 ≤ l) (l4 : l < 4) (hd : S 9 l = 0) (kk : ∀ z : Int, gV mX5_breakLink (d + 5) P 49 [vR 5, vI l, w, vI z] [] (aCan S l 8)) : ∀ (n k : Nat), k + n = 8 → gV mX5_breakLink (d + 5) P 21 [vR 5, vI l, w, vI k] [vI 8, vI k] (aCan S l k)
  | 0, k, hk => by
    have e : k = 8 := by omega
    subst e
    exact gV_it rfl (by unfold rng; omega) (show (8 : Int) ≤ _ by omega) (kk _)
  | n + 1, k, hk => by
    obtain ⟨i1, i2, i3, i4, i5, i6⟩ := AI_can h l0 hd k (by omega)
    have hbk := AI_bk i1 k
    have hJ := i1.2.2.1 k
    have ih := can_loop h l0 l4 hd kk n (k + 1) (by omega)
    have step : aCan S l (k + 1) = if aCan S l k 20 k = l then aCancel (aCan S l k) k else aCan S l k := rfl
    rw [step] at ih
    refine gV_in rfl (by unfold rng; omega) (show ¬ (8 : Int) ≤ _ by omega) ?_
    repeat (refine gV_s rfl (by first | exact trivial | omega) ?_)
    refine gV_i rfl (by unfold rng; omega) (fun h1 => ?_) (fun h1 => ?_)
    · rw [if_pos h1] at ih
      have hu : aCan S l k 19 k = -6 ∨ aCan S l k 9 (aCan S l k 19 k) = 1 := by
        rcases hJ.1 with q | ⟨q1, q2, q3 | q3⟩
        · exact Or.inl q
        · exact Or.inr q3
        · rcases hJ.2.1 with w | w
          · omega
          · have := w.2.2.2.2
            omega
      repeat (refine gV_s rfl (by first | exact trivial | omega) ?_)
      refine gV_cV (ok_cancel (d := d + 1) (P := fun r M' => (∃ v, r = vI v) ∧ M' = aCancel (aCan S l k) k) i1 (by omega) (by omega) hu ⟨⟨_, rfl⟩, rfl⟩) mX5_cancelMove_ok sX5_X5_cancelMove rfl rfl rfl rfl rfl rfl ?_
      rintro r M' ⟨⟨v, rfl⟩, rfl⟩
      repeat (refine gV_s rfl (by first | exact trivial | omega) ?_)
      exact ih
    · rw [if_neg h1] at ih
      repeat (refine gV_s rfl (by first | exact trivial | omega) ?_)
      exact ih
theorem mvs_loop {d : Nat} {S : Mem} {lo : Int → Int} {l w : Int} {P : PV → Mem → Prop} (h : AI S lo l) (l0 : 0 ≤ l) (l4 : l < 4) (hd : S 9 l = 0) (ht : ∀ b, 0 ≤ b → b < 8 → S 20 b ≠ l) (hP : P (vI w) (aMvs S l 8)) : ∀ (n k : Nat), k + n = 8 → gV mX5_breakLink (d + 5) P 54 [vR 5, vI l, vI w, vI k] [vI 8, vI k] (aMvs S l k)
  | 0, k, hk => by
    have e : k = 8 := by omega
    subst e
    refine gV_it rfl (by unfold rng; omega) (show (8 : Int) ≤ _ by omega) ?_
    repeat (refine gV_s rfl (by first | exact trivial | omega) ?_)
    exact gV_ret rfl trivial hP
  | n + 1, k, hk => by
    obtain ⟨i1, i2, i3, i4, i5, i6⟩ := AI_mvs h l0 hd ht k (by omega)
    have hbk := AI_bk i1 k
    have ih := mvs_loop (d := d) h l0 l4 hd ht hP n (k + 1) (by omega)
    have step : aMvs S l (k + 1) = if aMvs S l k 19 k = l then aMv1 (aMvs S l k) k else aMvs S l k := rfl
    rw [step] at ih
    refine gV_in rfl (by unfold rng; omega) (show ¬ (8 : Int) ≤ _ by omega) ?_
    repeat (refine gV_s rfl (by first | exact trivial | omega) ?_)
    refine gV_i rfl (by unfold rng; omega) (fun h1 => ?_) (fun h1 => ?_)
    · rw [if_pos h1] at ih
      generalize hT : aMvs S l k = T at *
      have hT1 := AI_to0 (b := k) i1
      have e1 : mw T 20 k (-6) 1 = T 1 := mw_rn _ _ _ (by decide)
      have hL := i1.1.1
      repeat (refine gV_s rfl (by first | exact trivial | omega) ?_)
      refine gV_cV (ok_few (d := d + 3) (P := fun r M' => r = vI (upF (mw T 20 k (-6)) (mw T 20 k (-6) 1 0).toNat) ∧ M' = mw T 20 k (-6)) hT1 ⟨rfl, rfl⟩) mX5_upLinkWithFewestBuckets_ok sX5_X5_upLinkWithFewestBuckets rfl rfl rfl rfl rfl rfl ?_
      rintro r M' ⟨rfl, rfl⟩
      have hk2 := upF_in (mw T 20 k (-6)) (mw T 20 k (-6) 1 0).toNat
      have eM : aMv1 T k = aSettle (mw (mw (mw T 20 k (-6)) 19 k (upF (mw T 20 k (-6)) (mw T 20 k (-6) 1 0).toNat)) 21 k (if upF (mw T 20 k (-6)) (mw T 20 k (-6) 1 0).toNat = -6 then 0 else 1)) k := rfl
      have hA := (AI_mv1 i1 (b := k) (by omega) (by omega) l0 (by rw [i2]; exact hd) h1)
      rw [eM] at ih hA
      generalize hK : upF (mw T 20 k (-6)) (mw T 20 k (-6) 1 0).toNat = q at *
      rw [e1] at hk2
      have t19 : mw (mw T 20 k (-6)) 19 k q 19 k = q := by rw [mw_rs, up1_s]
      have fin : ∀ v : Int, v = (if q = -6 then 0 else 1) → gV mX5_breakLink (d + 5) P 124 [vR 5, vI l, vI w, vI k] [vI v, vI k, vR 21] (mw (mw T 20 k (-6)) 19 k q) := by
        intro v hv
        have hv2 : v = 0 ∨ v = 1 := by rw [hv]; split; exact Or.inl rfl; exact Or.inr rfl
        refine gV_s rfl ⟨⟨by omega, by omega⟩, hv2⟩ ?_
        rw [hv]
        have hAA := AI_mv2 i1 (b := k) (by omega) (by omega) l0 (by rw [i2]; exact hd) (k := q) (by rw [← hK, e1])
        repeat (refine gV_s rfl (by first | exact trivial | omega) ?_)
        refine gV_cV (ok_settle (d := d) (P := fun r M' => r = none ∧ M' = aSettle (mw (mw (mw T 20 k (-6)) 19 k q) 21 k (if q = -6 then 0 else 1)) k) hAA.1 (by omega) (by omega) hAA.2 ⟨rfl, rfl⟩) mX5_settle_ok sX5_X5_settle rfl rfl rfl rfl rfl rfl ?_
        rintro r M' ⟨rfl, rfl⟩
        repeat (refine gV_s rfl (by first | exact trivial | omega) ?_)
        exact ih
      repeat (refine gV_s rfl (by first | exact trivial | omega) ?_)
      rw [t19]
      refine gV_i rfl (by unfold rng; omega) (fun h2 => ?_) (fun h2 => ?_)
      · refine gV_s rfl trivial ?_
        exact fin 0 (by rw [if_pos h2])
      · refine gV_s rfl trivial (gV_s rfl trivial ?_)
        exact fin 1 (by rw [if_neg h2])
    · rw [if_neg h1] at ih
      repeat (refine gV_s rfl (by first | exact trivial | omega) ?_)
      exact ih
theorem ok_break {d : Nat} {M : Mem} {lo : Int → Int} {l : Int} {P : PV → Mem → Prop} (h : AI M lo (-1)) (hu : M 9 l = 1) (hP : P (vI (M 17 l - M 15 l)) (aFail M l)) : gOk mX5_breakLink (d + 5) [vR 5, vI l] M P := by
  obtain ⟨l0, lL, l4⟩ := AI_up h hu
  have h1 := AI_down h hu
  have e9 : aLose (mw M 9 l 0) l 9 l = 0 := by rw [mw_lose, mw_rs, up1_s]
  obtain ⟨c1, c2, c3, c4, c5, c6⟩ := AI_can h1 l0 e9 8 (by omega)
  refine gOk_of mX5_breakLink_ok (by simp) (Nat.le_of_ble_eq_true rfl) ?_
  repeat (refine gV_s rfl (by first | exact trivial | omega) ?_)
  refine gV_cV (ok_lose (d := d + 3) (P := fun r M' => r = vI (M 17 l - M 15 l) ∧ M' = aLose (mw M 9 l 0) l) (M := mw M 9 l 0) h (Ex.skip1 Ex.rf (by decide)) l0 l4 (fun T hT h9 => ⟨rfl, ?_⟩)) mX5_loseLetters_ok sX5_X5_loseLetters rfl rfl rfl rfl rfl rfl ?_
  · rw [mw_lose]
    refine mem_ext (fun r => ?_)
    by_cases a : r = 9
    · subst a
      rw [h9, mw_rs, mw_rs]
      congr 1
      exact (aLoK_o M l (by decide) (by decide) (by decide) (by decide) (by decide) (by decide) _).symm
    · rw [mw_rn _ _ _ a]
      exact hT r (by simp [a])
  · rintro r M' ⟨rfl, rfl⟩
    repeat (refine gV_s rfl (by first | exact trivial | omega) ?_)
    refine can_loop (d := d) h1 l0 l4 e9 (fun z => ?_) 8 0 rfl
    repeat (refine gV_s rfl (by first | exact trivial | omega) ?_)
    exact mvs_loop c1 l0 l4 (by rw [c3]; exact e9) (fun b b0 b8 => c6 b b0 (by omega)) hP 8 0 rfl
end
section
/-! The class's face: calls that change. -/
def oLink (S : Mem) (s d : Int) : Int × Mem := if (1 ≤ s ∧ s ≤ 8) ∧ 1 ≤ d ∧ d ≤ 30 then (if 4 ≤ S 1 0 then (-4, S) else (S 1 0, aLink S s d)) else (-2, S)
def oFlow (S : Mem) (r : Int) : Int × Mem := if 0 ≤ r ∧ r ≤ 100 then (if 16 ≤ S 3 0 then (-4, S) else (S 3 0, aFlow S r)) else (-2, S)
def oRate (S : Mem) (f r : Int) : Int × Mem := if 0 ≤ f ∧ f < S 3 0 then (if 0 ≤ r ∧ r ≤ 100 then (S 24 f, mw S 24 f r) else (-2, S)) else (-1, S)
def oPin (S : Mem) (f b : Int) : Int × Mem := if 0 ≤ f ∧ f < S 3 0 then (if -1 ≤ b ∧ b < 8 then (if S 27 f + S 28 f < S 26 f then (-3, S) else (bkO S f, mw S 25 f b)) else (-2, S)) else (-1, S)
def oHash (S : Mem) (a c : Int) : Int × Mem := if (0 ≤ a ∧ a ≤ 7) ∧ 0 ≤ c ∧ c ≤ 7 then (if S 41 4 + S 41 5 < S 4 0 then (-3, S) else (1, mw (mw S 3 1 a) 3 2 c)) else (-2, S)
def oNumbers (S : Mem) (v : Int) : Int × Mem := if S 41 4 + S 41 5 < S 4 0 then (-3, S) else (S 5 1, mw S 5 1 v)
def aSend (S : Mem) (f : Int) : Nat → Mem
  | 0 => S
  | k + 1 => aPost (aSend S f k) f
def oSend (S : Mem) (f n : Int) : Int × Mem := if 0 ≤ f ∧ f < S 3 0 then (if 1 ≤ n ∧ n ≤ 50 then (if 400 < S 4 0 + n then (-4, S) else (S 4 0 + n, aSend S f n.toNat)) else (-2, S)) else (-1, S)
def oTick (S : Mem) (n : Int) : Int × Mem := if 0 ≤ n ∧ n ≤ 500 then (S 5 0 + n, aTicks S n.toNat) else (-2, S)
def oMove (S : Mem) (b l how : Int) : Int × Mem :=
  if (0 ≤ b ∧ b < 8) ∧ 0 ≤ l ∧ l < S 1 0 then (if 0 ≤ how ∧ how ≤ 2 then (if S 19 b = -6 ∨ S 20 b ≠ -6 ∨ S 21 b ≠ 0 then (-3, S) else (if S 9 l = 0 ∨ S 19 b = l ∨ (how = 2 ∧ S 5 1 = 0) then (-5, S) else (if aMove S b l how 20 b = -6 then 1 else 0, aMove S b l how))) else (-2, S)) else (-1, S)
def oDrop (S : Mem) (b : Int) : Int × Mem := if 0 ≤ b ∧ b < 8 then (if S 20 b = -6 then (-3, S) else (S 22 b, aCancel S b)) else (-1, S)
def oFail (S : Mem) (l : Int) : Int × Mem := if 0 ≤ l ∧ l < S 1 0 then (if S 9 l = 0 then (-3, S) else (S 17 l - S 15 l, aFail S l)) else (-1, S)
def oBack (S : Mem) (l : Int) : Int × Mem := if 0 ≤ l ∧ l < S 1 0 then (if S 9 l = 0 then (ct (is_ (S 19) (-6)) 8, aBack S l) else (-3, S)) else (-1, S)
/-- the class does as told -/
def does (o : Int × Mem) : PV → Mem → Prop := fun r M' => r = vI o.1 ∧ M' = o.2
theorem doesP {o : Int × Mem} {v : Int} {M : Mem} (h : o = (v, M)) : does o (vI v) M := by subst h; exact ⟨rfl, rfl⟩
theorem ok_cLink {d : Nat} {M : Mem} {s dl : Int} (h : NI M) (hs : rng s) (hd : rng dl) : gOk mX6_link (d + 4) [vR 0, vI s, vI dl] M (does (oLink M s dl)) := by
  have hL := h.1.1
  refine gOk_of mX6_link_ok (by simp) (Nat.le_of_ble_eq_true rfl) ?_
  repeat (refine gV_s rfl (by first | exact trivial | omega) ?_)
  refine gV_cS (ok_isWithin (d := d + 3) (M := M) hs (by unfold rng; omega) (by unfold rng; omega)) mX6_isWithin_ok sX6_X6_isWithin rfl rfl rfl rfl ?_
  rintro r M' ⟨rfl, ⟨h1, rfl⟩ | ⟨h1, rfl⟩⟩
  · refine gV_in rfl (by unfold rng; omega) (by omega) ?_
    repeat (refine gV_s rfl (by first | exact trivial | omega) ?_)
    refine gV_cS (ok_isWithin (d := d + 3) (M := M') hd (by unfold rng; omega) (by unfold rng; omega)) mX6_isWithin_ok sX6_X6_isWithin rfl rfl rfl rfl ?_
    rintro r M'' ⟨rfl, ⟨h2, rfl⟩ | ⟨h2, rfl⟩⟩
    · refine gV_in rfl (by unfold rng; omega) (by omega) ?_
      repeat (refine gV_s rfl (by first | exact trivial | omega) ?_)
      refine gV_i rfl (by unfold rng; omega) (fun h3 => ?_) (fun h3 => ?_)
      · repeat (refine gV_s rfl (by first | exact trivial | omega) ?_)
        refine gV_cV (ok_linkAdd (d := d + 3) (P := fun r M' => r = vI (M'' 1 0) ∧ M' = aLink0 M'' s dl) hL.1 h3 ⟨rfl, rfl⟩) mX3_add_ok sX6_X3_add rfl rfl rfl rfl rfl rfl ?_
        rintro r M' ⟨rfl, rfl⟩
        repeat (refine gV_s rfl (by first | exact trivial | omega) ?_)
        refine gV_cV (ok_takeIn (d := d) (P := fun r M' => (∃ v, r = vI v) ∧ M' = aLink M'' s dl) (AI_link0 h h3 h1 h2) (by unfold aLink0; simp only [mw_rs, mw_rn, ne_eq, not_false_eq_true, Nat.reduceEqDiff, Nat.reduceLT, Nat.reduceLeDiff, true_or, or_true, forall_const, up1_s]) ⟨⟨_, rfl⟩, rfl⟩) mX5_takeIn_ok sX6_X5_takeIn rfl rfl rfl rfl rfl rfl ?_
        rintro r M' ⟨⟨v, rfl⟩, rfl⟩
        repeat (refine gV_s rfl (by first | exact trivial | omega) ?_)
        exact gV_ret rfl trivial (doesP (by unfold oLink; rw [if_pos ⟨h1, h2⟩, if_neg (by omega)]))
      · repeat (refine gV_s rfl (by first | exact trivial | omega) ?_)
        exact gV_ret rfl trivial (doesP (by unfold oLink; rw [if_pos ⟨h1, h2⟩, if_pos (by omega)]))
    · refine gV_it rfl (by unfold rng; omega) rfl ?_
      repeat (refine gV_s rfl (by first | exact trivial | omega) ?_)
      exact gV_ret rfl trivial (doesP (by unfold oLink; rw [if_neg (fun q => h2 q.2)]))
  · refine gV_it rfl (by unfold rng; omega) rfl ?_
    repeat (refine gV_s rfl (by first | exact trivial | omega) ?_)
    exact gV_ret rfl trivial (doesP (by unfold oLink; rw [if_neg (fun q => h1 q.1)]))
theorem ok_cFlow {d : Nat} {M : Mem} {x : Int} (h : NI M) (hx : rng x) : gOk mX6_flow (d + 1) [vR 0, vI x] M (does (oFlow M x)) := by
  have hF := h.1.2.1
  refine gOk_of mX6_flow_ok (by simp) (Nat.le_of_ble_eq_true rfl) ?_
  repeat (refine gV_s rfl (by first | exact trivial | omega) ?_)
  refine gV_cS (ok_isWithin (d := d) (M := M) hx (by unfold rng; omega) (by unfold rng; omega)) mX6_isWithin_ok sX6_X6_isWithin rfl rfl rfl rfl ?_
  rintro r M' ⟨rfl, ⟨h1, rfl⟩ | ⟨h1, rfl⟩⟩
  · refine gV_in rfl (by unfold rng; omega) (by omega) ?_
    repeat (refine gV_s rfl (by first | exact trivial | omega) ?_)
    refine gV_i rfl (by unfold rng; omega) (fun h3 => ?_) (fun h3 => ?_)
    · repeat (refine gV_s rfl (by first | exact trivial | omega) ?_)
      refine gV_cV (ok_flowAdd (d := d) (P := does (oFlow M' x)) hF.1 h3 (doesP (by unfold oFlow; rw [if_pos h1, if_neg (by omega)]))) mX1_add_ok sX6_X1_add rfl rfl rfl rfl rfl rfl ?_
      rintro r M'' ⟨rfl, rfl⟩
      exact gV_ret rfl trivial ⟨rfl, rfl⟩
    · repeat (refine gV_s rfl (by first | exact trivial | omega) ?_)
      exact gV_ret rfl trivial (doesP (by unfold oFlow; rw [if_pos h1, if_pos (by omega)]))
  · refine gV_it rfl (by unfold rng; omega) rfl ?_
    repeat (refine gV_s rfl (by first | exact trivial | omega) ?_)
    exact gV_ret rfl trivial (doesP (by unfold oFlow; rw [if_neg h1]))
theorem ok_cRate {d : Nat} {M : Mem} {f x : Int} (h : NI M) (hf : rng f) (hx : rng x) : gOk mX6_rate (d + 1) [vR 0, vI f, vI x] M (does (oRate M f x)) := by
  have hF := h.1.2.1
  refine gOk_of mX6_rate_ok (by simp) (Nat.le_of_ble_eq_true rfl) ?_
  repeat (refine gV_s rfl (by first | exact trivial | omega) ?_)
  refine gV_cS (ok_isBelow (d := d) (M := M) hf (by unfold rng; omega)) mX6_isBelow_ok sX6_X6_isBelow rfl rfl rfl rfl ?_
  rintro r M' ⟨rfl, ⟨h1, rfl⟩ | ⟨h1, rfl⟩⟩
  · refine gV_in rfl (by unfold rng; omega) (by omega) ?_
    repeat (refine gV_s rfl (by first | exact trivial | omega) ?_)
    refine gV_cS (ok_isWithin (d := d) (M := M') hx (by unfold rng; omega) (by unfold rng; omega)) mX6_isWithin_ok sX6_X6_isWithin rfl rfl rfl rfl ?_
    rintro r M'' ⟨rfl, ⟨h2, rfl⟩ | ⟨h2, rfl⟩⟩
    · refine gV_in rfl (by unfold rng; omega) (by omega) ?_
      repeat (refine gV_s rfl (by first | exact trivial | omega) ?_)
      exact gV_ret rfl trivial (doesP (by unfold oRate; rw [if_pos h1, if_pos h2]))
    · refine gV_it rfl (by unfold rng; omega) rfl ?_
      repeat (refine gV_s rfl (by first | exact trivial | omega) ?_)
      exact gV_ret rfl trivial (doesP (by unfold oRate; rw [if_pos h1, if_neg h2]))
  · refine gV_it rfl (by unfold rng; omega) rfl ?_
    repeat (refine gV_s rfl (by first | exact trivial | omega) ?_)
    exact gV_ret rfl trivial (doesP (by unfold oRate; rw [if_neg h1]))
theorem AI_fl {M : Mem} {lo : Int → Int} {x : Int} (h : AI M lo x) {f : Int} (f0 : 0 ≤ f) (f1 : f < 16) : (0 ≤ M 26 f ∧ M 26 f ≤ 400) ∧ (0 ≤ M 27 f ∧ M 27 f ≤ 400) ∧ (0 ≤ M 28 f ∧ M 28 f ≤ 400) := by
  have h4 := h.1.2.2.1
  have k := h.2.2.2.2.2.2.2.2.2.1 f f0 f1
  have n1 := ct_nn (fun j => decide (M 31 j = f)) (M 4 0).toNat
  have n2 := ct_nn (fun j => decide (M 34 j = 4 ∧ M 31 j = f)) (M 4 0).toNat
  have n3 := ct_nn (fun j => decide (M 34 j = 5 ∧ M 31 j = f)) (M 4 0).toNat
  omega
theorem ok_cPin {d : Nat} {M : Mem} {f b : Int} (h : NI M) (hf : rng f) (hb : rng b) : gOk mX6_pin (d + 1) [vR 0, vI f, vI b] M (does (oPin M f b)) := by
  have hF := h.1.2.1
  have ha := h.1.2.2.2.2.2
  refine gOk_of mX6_pin_ok (by simp) (Nat.le_of_ble_eq_true rfl) ?_
  repeat (refine gV_s rfl (by first | exact trivial | omega) ?_)
  refine gV_cS (ok_isBelow (d := d) (M := M) hf (by unfold rng; omega)) mX6_isBelow_ok sX6_X6_isBelow rfl rfl rfl rfl ?_
  rintro r M' ⟨rfl, ⟨h1, rfl⟩ | ⟨h1, rfl⟩⟩
  · refine gV_in rfl (by unfold rng; omega) (by omega) ?_
    have hfl := AI_fl h h1.1 (by omega)
    have hff := h.2.2.2.2.2.1 f
    have fin : (-1 ≤ b ∧ b < 8) → gV mX6_pin (d + 1) (does (oPin M' f b)) 33 [vR 0, vI f, vI b, none] [] M' := by
      intro h2
      repeat (refine gV_s rfl (by first | exact trivial | omega) ?_)
      refine gV_cV (ok_fUnended (d := d) (M := M') (f := f) h1.1 (by omega) (by unfold rng; omega) (by unfold rng; omega)) mX1_hasUnended_ok sX6_X1_hasUnended rfl rfl rfl rfl rfl rfl ?_
      rintro r M'' ⟨rfl, ⟨h3, rfl⟩ | ⟨h3, rfl⟩⟩
      · refine gV_in rfl (by unfold rng; omega) (by omega) ?_
        repeat (refine gV_s rfl (by first | exact trivial | omega) ?_)
        exact gV_ret rfl trivial (doesP (by unfold oPin; rw [if_pos h1, if_pos h2, if_pos h3]))
      · refine gV_it rfl (by unfold rng; omega) rfl ?_
        repeat (refine gV_s rfl (by first | exact trivial | omega) ?_)
        refine gV_cV (ok_bucketOf (d := d) (P := fun r M' => r = vI (bkO M'' f) ∧ M' = M'') h1.1 (by omega) ha.1 ha.2.1 (by unfold rng; omega) ⟨rfl, rfl⟩) mX1_bucketOf_ok sX6_X1_bucketOf rfl rfl rfl rfl rfl rfl ?_
        rintro r M' ⟨rfl, rfl⟩
        repeat (refine gV_s rfl (by first | exact trivial | omega) ?_)
        exact gV_ret rfl trivial (doesP (by unfold oPin; rw [if_pos h1, if_pos h2, if_neg h3]))
    unfold rng at hb
    repeat (refine gV_s rfl (by first | exact trivial | omega) ?_)
    refine gV_i rfl (by unfold rng; omega) (fun h2 => ?_) (fun h2 => ?_)
    · exact fin (by omega)
    · repeat (refine gV_s rfl (by first | exact trivial | omega) ?_)
      refine gV_cS (ok_isBelow (d := d) (M := M') (x := b) (by unfold rng; omega) (by unfold rng; omega)) mX6_isBelow_ok sX6_X6_isBelow rfl rfl rfl rfl ?_
      rintro r M'' ⟨rfl, ⟨h3, rfl⟩ | ⟨h3, rfl⟩⟩
      · exact gV_in rfl (by unfold rng; omega) (by omega) (fin (by omega))
      · refine gV_it rfl (by unfold rng; omega) rfl ?_
        repeat (refine gV_s rfl (by first | exact trivial | omega) ?_)
        exact gV_ret rfl trivial (doesP (by unfold oPin; rw [if_pos h1, if_neg (by omega)]))
  · refine gV_it rfl (by unfold rng; omega) rfl ?_
    repeat (refine gV_s rfl (by first | exact trivial | omega) ?_)
    exact gV_ret rfl trivial (doesP (by unfold oPin; rw [if_neg h1]))
theorem ok_cHash {d : Nat} {M : Mem} {a c : Int} (h : NI M) (ha : rng a) (hc : rng c) : gOk mX6_hash (d + 1) [vR 0, vI a, vI c] M (does (oHash M a c)) := by
  have hn := h.1.2.2.1
  have n4 := AI_ins h (s := 4) (by decide) (by decide)
  have n5 := AI_ins h (s := 5) (by decide) (by decide)
  refine gOk_of mX6_hash_ok (by simp) (Nat.le_of_ble_eq_true rfl) ?_
  repeat (refine gV_s rfl (by first | exact trivial | omega) ?_)
  refine gV_cS (ok_isWithin (d := d) (M := M) ha (by unfold rng; omega) (by unfold rng; omega)) mX6_isWithin_ok sX6_X6_isWithin rfl rfl rfl rfl ?_
  rintro r M' ⟨rfl, ⟨h1, rfl⟩ | ⟨h1, rfl⟩⟩
  · refine gV_in rfl (by unfold rng; omega) (by omega) ?_
    repeat (refine gV_s rfl (by first | exact trivial | omega) ?_)
    refine gV_cS (ok_isWithin (d := d) (M := M') hc (by unfold rng; omega) (by unfold rng; omega)) mX6_isWithin_ok sX6_X6_isWithin rfl rfl rfl rfl ?_
    rintro r M'' ⟨rfl, ⟨h2, rfl⟩ | ⟨h2, rfl⟩⟩
    · refine gV_in rfl (by unfold rng; omega) (by omega) ?_
      repeat (refine gV_s rfl (by first | exact trivial | omega) ?_)
      refine gV_cV (ok_lUnended (d := d) (M := M'') (by unfold rng; omega) (by unfold rng; omega)) mX2_hasUnended_ok sX6_X2_hasUnended rfl rfl rfl rfl rfl rfl ?_
      rintro r M' ⟨rfl, ⟨h3, rfl⟩ | ⟨h3, rfl⟩⟩
      · refine gV_in rfl (by unfold rng; omega) (by omega) ?_
        repeat (refine gV_s rfl (by first | exact trivial | omega) ?_)
        exact gV_ret rfl trivial (doesP (by unfold oHash; rw [if_pos ⟨h1, h2⟩, if_pos h3]))
      · refine gV_it rfl (by unfold rng; omega) rfl ?_
        repeat (refine gV_s rfl (by first | exact trivial | omega) ?_)
        exact gV_ret rfl trivial (doesP (by unfold oHash; rw [if_pos ⟨h1, h2⟩, if_neg h3]))
    · refine gV_it rfl (by unfold rng; omega) rfl ?_
      repeat (refine gV_s rfl (by first | exact trivial | omega) ?_)
      exact gV_ret rfl trivial (doesP (by unfold oHash; rw [if_neg (fun q => h2 q.2)]))
  · refine gV_it rfl (by unfold rng; omega) rfl ?_
    repeat (refine gV_s rfl (by first | exact trivial | omega) ?_)
    exact gV_ret rfl trivial (doesP (by unfold oHash; rw [if_neg (fun q => h1 q.1)]))
theorem ok_cNumbers {d : Nat} {M : Mem} {v : Int} (h : NI M) (hv : v = 0 ∨ v = 1) : gOk mX6_numbers (d + 1) [vR 0, vI v] M (does (oNumbers M v)) := by
  have hn := h.1.2.2.1
  have hno := h.1.2.2.2.2.1
  have n4 := AI_ins h (s := 4) (by decide) (by decide)
  have n5 := AI_ins h (s := 5) (by decide) (by decide)
  refine gOk_of mX6_numbers_ok (by simp) (Nat.le_of_ble_eq_true rfl) ?_
  repeat (refine gV_s rfl (by first | exact trivial | omega) ?_)
  refine gV_cV (ok_lUnended (d := d) (M := M) (by unfold rng; omega) (by unfold rng; omega)) mX2_hasUnended_ok sX6_X2_hasUnended rfl rfl rfl rfl rfl rfl ?_
  rintro r M' ⟨rfl, ⟨h3, rfl⟩ | ⟨h3, rfl⟩⟩
  · refine gV_in rfl (by unfold rng; omega) (by omega) ?_
    repeat (refine gV_s rfl (by first | exact trivial | omega) ?_)
    exact gV_ret rfl trivial (doesP (by unfold oNumbers; rw [if_pos h3]))
  · refine gV_it rfl (by unfold rng; omega) rfl ?_
    repeat (refine gV_s rfl (by first | exact trivial | omega) ?_)
    refine gV_cS (ok_oneIf (d := d) (P := fun r M'' => r = vI (M' 5 1) ∧ M'' = M') hno ⟨rfl, rfl⟩) mX6_oneIf_ok sX6_X6_oneIf rfl rfl rfl rfl ?_
    rintro r M'' ⟨rfl, rfl⟩
    repeat (refine gV_s rfl (by first | exact trivial | omega) ?_)
    exact gV_ret rfl trivial (doesP (by unfold oNumbers; rw [if_neg h3]))
/-! sending -/
theorem aAdd_4 (S : Mem) (f p b t : Int) : aAdd S f p b t 4 = up1 (S 4) 0 (S 4 0 + 1) := by unfold aAdd; simp only [mw_rs, mw_rn, ne_eq, not_false_eq_true, Nat.reduceEqDiff, Nat.reduceLT, Nat.reduceLeDiff, true_or, or_true, forall_const]
theorem aPost_4 {S : Mem} {lo : Int → Int} {f : Int} (h : AI S lo (-1)) : aPost S f 4 0 = S 4 0 + 1 := by
  have hb := AI_bk h (bkO S f)
  unfold aPost
  split
  · rw [(aNew_rows S f _).2.2.2.2.2.2.2.1, up1_s]
  · rw [aEnq_o _ _ _ (by decide) (by decide) (by decide) (by decide) (by omega)]
    unfold aPost0
    rw [mw_rn _ _ _ (by decide), aAdd_4, up1_s]
theorem aPost_r {S : Mem} {lo : Int → Int} {f : Int} (h : AI S lo (-1)) {r : Nat} (hr : r = 1 ∨ r = 3 ∨ r = 5 ∨ r = 9 ∨ r = 19 ∨ r = 21 ∨ r = 24 ∨ r = 25 ∨ 42 ≤ r) : aPost S f r = S r := by
  have hb := AI_bk h (bkO S f)
  unfold aPost
  split
  · rw [aNew_o _ _ _ (by omega) (by omega)]
  · rw [aEnq_o _ _ _ (by omega) (by omega) (by omega) (by omega) (by omega)]
    unfold aPost0 aAdd
    rw [mw_rn _ _ _ (by omega), mw_rn _ _ _ (by omega), mw_rn _ _ _ (by omega), mw_rn _ _ _ (by omega), mw_rn _ _ _ (by omega), mw_rn _ _ _ (by omega), mw_rn _ _ _ (by omega), mw_rn _ _ _ (by omega), mw_rn _ _ _ (by omega), mw_rn _ _ _ (by omega), mw_rn _ _ _ (by omega), mw_rn _ _ _ (by omega)]
theorem AI_send {S : Mem} {lo : Int → Int} {f : Int} (h : AI S lo (-1)) (f0 : 0 ≤ f) (f1 : f < S 3 0) : ∀ k : Nat, S 4 0 + k ≤ 400 → AI (aSend S f k) lo (-1) ∧ aSend S f k 4 0 = S 4 0 + k ∧ aSend S f k 3 = S 3 ∧ aSend S f k 5 = S 5
  | 0, _ => ⟨h, by simp [aSend], rfl, rfl⟩
  | k + 1, hk => by
    obtain ⟨i1, i2, i3, i4⟩ := AI_send h f0 f1 k (by omega)
    refine ⟨AI_post i1 f0 (by rw [i3]; exact f1) (by omega), ?_, ?_, ?_⟩
    · rw [aSend, aPost_4 i1, i2]; push_cast; omega
    · rw [aSend, aPost_r i1 (by omega), i3]
    · rw [aSend, aPost_r i1 (by omega), i4]
theorem send_loop {d : Nat} {S : Mem} {f x : Int} {P : PV → Mem → Prop} (h : NI S) (f0 : 0 ≤ f) (f1 : f < S 3 0) (hx : 1 ≤ x ∧ x ≤ 50) (hc : S 4 0 + x ≤ 400) (hP : P (vI (S 4 0 + x)) (aSend S f x.toNat)) : ∀ (n k : Nat), (k : Int) + n = x → gV mX6_send (d + 3) P 51 [vR 0, vI f, vI x, vI k] [vI x, vI k] (aSend S f k)
  | 0, k, hk => by
    have e : k = x.toNat := by omega
    subst e
    obtain ⟨i1, i2, i3, i4⟩ := AI_send h f0 f1 x.toNat (by omega)
    refine gV_it rfl (by unfold rng; omega) (by omega) ?_
    repeat (refine gV_s rfl (by first | exact trivial | omega) ?_)
    rw [i2, show ((x.toNat : Nat) : Int) = x by omega]
    exact gV_ret rfl trivial hP
  | n + 1, k, hk => by
    obtain ⟨i1, i2, i3, i4⟩ := AI_send h f0 f1 k (by omega)
    have ih := send_loop (d := d) h f0 f1 hx hc hP n (k + 1) (by push_cast; omega)
    refine gV_in rfl (by unfold rng; omega) (by omega) ?_
    repeat (refine gV_s rfl (by first | exact trivial | omega) ?_)
    refine gV_cV (ok_post (d := d) (P := fun r M' => r = none ∧ M' = aPost (aSend S f k) f) i1 f0 (by rw [i3]; exact f1) (by omega) ⟨rfl, rfl⟩) mX5_post_ok sX6_X5_post rfl rfl rfl rfl rfl rfl ?_
    rintro r M' ⟨rfl, rfl⟩
    repeat (refine gV_s rfl (by first | exact trivial | omega) ?_)
    exact ih
theorem ok_cSend {d : Nat} {M : Mem} {f x : Int} (h : NI M) (hf : rng f) (hx : rng x) : gOk mX6_send (d + 3) [vR 0, vI f, vI x] M (does (oSend M f x)) := by
  have hF := h.1.2.1
  have hn := h.1.2.2.1
  refine gOk_of mX6_send_ok (by simp) (Nat.le_of_ble_eq_true rfl) ?_
  repeat (refine gV_s rfl (by first | exact trivial | omega) ?_)
  refine gV_cS (ok_isBelow (d := d + 2) (M := M) hf (by unfold rng; omega)) mX6_isBelow_ok sX6_X6_isBelow rfl rfl rfl rfl ?_
  rintro r M' ⟨rfl, ⟨h1, rfl⟩ | ⟨h1, rfl⟩⟩
  · refine gV_in rfl (by unfold rng; omega) (by omega) ?_
    repeat (refine gV_s rfl (by first | exact trivial | omega) ?_)
    refine gV_cS (ok_isWithin (d := d + 2) (M := M') hx (by unfold rng; omega) (by unfold rng; omega)) mX6_isWithin_ok sX6_X6_isWithin rfl rfl rfl rfl ?_
    rintro r M'' ⟨rfl, ⟨h2, rfl⟩ | ⟨h2, rfl⟩⟩
    · refine gV_in rfl (by unfold rng; omega) (by omega) ?_
      repeat (refine gV_s rfl (by first | exact trivial | omega) ?_)
      refine gV_i rfl (by unfold rng; omega) (fun h3 => ?_) (fun h3 => ?_)
      · repeat (refine gV_s rfl (by first | exact trivial | omega) ?_)
        exact send_loop h h1.1 h1.2 h2 h3 (doesP (by unfold oSend; rw [if_pos h1, if_pos h2, if_neg (by omega)])) x.toNat 0 (by omega)
      · repeat (refine gV_s rfl (by first | exact trivial | omega) ?_)
        exact gV_ret rfl trivial (doesP (by unfold oSend; rw [if_pos h1, if_pos h2, if_pos (by omega)]))
    · refine gV_it rfl (by unfold rng; omega) rfl ?_
      repeat (refine gV_s rfl (by first | exact trivial | omega) ?_)
      exact gV_ret rfl trivial (doesP (by unfold oSend; rw [if_pos h1, if_neg h2]))
  · refine gV_it rfl (by unfold rng; omega) rfl ?_
    repeat (refine gV_s rfl (by first | exact trivial | omega) ?_)
    exact gV_ret rfl trivial (doesP (by unfold oSend; rw [if_neg h1]))
/-! ticks -/
theorem idle_ticks {S : Mem} (h : NI S) : ∀ (j k : Nat), idle (aTicks S k) → S 5 0 + (k + j : Nat) ≤ 1000000 → aTicks S (k + j) = mw (aTicks S k) 5 0 (S 5 0 + (k + j : Nat)) ∧ idle (aTicks S (k + j))
  | 0, k, hi, hb => by
    obtain ⟨h1, h2⟩ := NI_ticks h k (by omega)
    refine ⟨?_, hi⟩
    show aTicks S k = _
    rw [show S 5 0 + ((k + 0 : Nat) : Int) = aTicks S k 5 0 by rw [h2]; simp, mw_id]
  | j + 1, k, hi, hb => by
    obtain ⟨i1, i2⟩ := idle_ticks h j k hi (by push_cast at hb ⊢; omega)
    obtain ⟨h1, h2⟩ := NI_ticks h (k + j) (by push_cast at hb ⊢; omega)
    have e : aTicks S (k + (j + 1)) = tk1 (aTicks S (k + j)) := by
      show aTick (aTicks S (k + j)) = _
      exact idle_tick h1 i2
    have e2 : tk1 (aTicks S (k + j)) = mw (aTicks S k) 5 0 (S 5 0 + (k + (j + 1) : Nat)) := by
      unfold tk1
      rw [h2]
      conv => lhs; rw [i1]
      rw [mw_mw]
      congr 1
      push_cast
      omega
    refine ⟨e.trans e2, ?_⟩
    rw [e]
    unfold idle tk1
    simp only [mw_rn, ne_eq, not_false_eq_true, Nat.reduceEqDiff, Nat.reduceLT, Nat.reduceLeDiff, true_or, or_true, forall_const]
    exact i2
theorem tick_loop {d : Nat} {S : Mem} {x : Int} {P : PV → Mem → Prop} (h : NI S) (hx : 0 ≤ x ∧ x ≤ 500) (ht : S 5 0 + x ≤ 1000000) (hP : P (vI (S 5 0 + x)) (aTicks S x.toNat)) : ∀ (n k : Nat), (k : Int) + n = x → gV mX6_tick (d + 6) P 28 [vR 0, vI x, vI (S 5 0 + x), vI k] [vI x, vI k] (aTicks S k)
  | 0, k, hk => by
    have e : k = x.toNat := by omega
    obtain ⟨h1, h2⟩ := NI_ticks h k (by omega)
    have htt := h1.1.2.2.2.1
    refine gV_it rfl (by unfold rng; omega) (by omega) ?_
    repeat (refine gV_s rfl (by first | exact trivial | omega) ?_)
    refine gV_ret rfl trivial ?_
    have e2 : mw (aTicks S k) 5 0 (S 5 0 + x) = aTicks S x.toNat := by
      rw [show S 5 0 + x = aTicks S k 5 0 by rw [h2]; omega, mw_id, e]
    rw [e2]
    exact hP
  | n + 1, k, hk => by
    obtain ⟨h1, h2⟩ := NI_ticks h k (by omega)
    have ih := tick_loop (d := d) h hx ht hP n (k + 1) (by push_cast; omega)
    refine gV_in rfl (by unfold rng; omega) (by omega) ?_
    repeat (refine gV_s rfl (by first | exact trivial | omega) ?_)
    refine gV_cV (ok_isBusy (d := d + 3) h1) mX5_isBusy_ok sX6_X5_isBusy rfl rfl rfl rfl rfl rfl ?_
    rintro r M' ⟨rfl, ⟨h3, rfl⟩ | ⟨h3, rfl⟩⟩
    · refine gV_in rfl (by unfold rng; omega) (by omega) ?_
      repeat (refine gV_s rfl (by first | exact trivial | omega) ?_)
      refine gV_cV (ok_passTick (d := d) (P := fun r M' => r = none ∧ M' = aTick (aTicks S k)) h1 (by omega) ⟨rfl, rfl⟩) mX5_passTick_ok sX6_X5_passTick rfl rfl rfl rfl rfl rfl ?_
      rintro r M' ⟨rfl, rfl⟩
      repeat (refine gV_s rfl (by first | exact trivial | omega) ?_)
      exact ih
    · refine gV_it rfl (by unfold rng; omega) rfl ?_
      repeat (refine gV_s rfl (by first | exact trivial | omega) ?_)
      refine gV_ret rfl trivial ?_
      have hi : idle (aTicks S k) := Classical.not_not.mp h3
      have := (idle_ticks h (n + 1) k hi (by push_cast; omega)).1
      have e2 : mw (aTicks S k) 5 0 (S 5 0 + x) = aTicks S x.toNat := by
        rw [show x.toNat = k + (n + 1) by omega, this]
        congr 1
        push_cast
        omega
      rw [e2]
      exact hP
theorem ok_cTick {d : Nat} {M : Mem} {x : Int} (h : NI M) (hx : rng x) (ht : M 5 0 ≤ 900000) : gOk mX6_tick (d + 6) [vR 0, vI x] M (does (oTick M x)) := by
  refine gOk_of mX6_tick_ok (by simp) (Nat.le_of_ble_eq_true rfl) ?_
  repeat (refine gV_s rfl (by first | exact trivial | omega) ?_)
  refine gV_cS (ok_isWithin (d := d + 5) (M := M) hx (by unfold rng; omega) (by unfold rng; omega)) mX6_isWithin_ok sX6_X6_isWithin rfl rfl rfl rfl ?_
  rintro r M' ⟨rfl, ⟨h1, rfl⟩ | ⟨h1, rfl⟩⟩
  · refine gV_in rfl (by unfold rng; omega) (by omega) ?_
    repeat (refine gV_s rfl (by first | exact trivial | omega) ?_)
    exact tick_loop h h1 (by omega) (doesP (by unfold oTick; rw [if_pos h1])) x.toNat 0 (by omega)
  · refine gV_it rfl (by unfold rng; omega) rfl ?_
    repeat (refine gV_s rfl (by first | exact trivial | omega) ?_)
    exact gV_ret rfl trivial (doesP (by unfold oTick; rw [if_neg h1]))
end
section
/-! The class's face: moves, links, and what is told. -/
theorem ok_cMove {d : Nat} {M : Mem} {b l how : Int} (h : NI M) (hb : rng b) (hl : rng l) (hh : rng how) : gOk mX6_move (d + 6) [vR 0, vI b, vI l, vI how] M (does (oMove M b l how)) := by
  have hL := h.1.1
  have hno := h.1.2.2.2.2.1
  refine gOk_of mX6_move_ok (by simp) (Nat.le_of_ble_eq_true rfl) ?_
  repeat (refine gV_s rfl (by first | exact trivial | omega) ?_)
  refine gV_cS (ok_isBelow (d := d + 5) (M := M) hb (by unfold rng; omega)) mX6_isBelow_ok sX6_X6_isBelow rfl rfl rfl rfl ?_
  rintro r M' ⟨rfl, ⟨h1, rfl⟩ | ⟨h1, rfl⟩⟩
  · refine gV_in rfl (by unfold rng; omega) (by omega) ?_
    repeat (refine gV_s rfl (by first | exact trivial | omega) ?_)
    refine gV_cS (ok_isBelow (d := d + 5) (M := M') hl (by unfold rng; omega)) mX6_isBelow_ok sX6_X6_isBelow rfl rfl rfl rfl ?_
    rintro r M'' ⟨rfl, ⟨h2, rfl⟩ | ⟨h2, rfl⟩⟩
    · refine gV_in rfl (by unfold rng; omega) (by omega) ?_
      repeat (refine gV_s rfl (by first | exact trivial | omega) ?_)
      refine gV_cS (ok_isWithin (d := d + 5) (M := M'') hh (by unfold rng; omega) (by unfold rng; omega)) mX6_isWithin_ok sX6_X6_isWithin rfl rfl rfl rfl ?_
      rintro r M' ⟨rfl, ⟨h3, rfl⟩ | ⟨h3, rfl⟩⟩
      · refine gV_in rfl (by unfold rng; omega) (by omega) ?_
        have hbk := AI_bk h b
        have hup := h.2.1.2.1 l
        have e0 : oMove M' b l how = (if M' 19 b = -6 ∨ M' 20 b ≠ -6 ∨ M' 21 b ≠ 0 then (-3, M') else (if M' 9 l = 0 ∨ M' 19 b = l ∨ (how = 2 ∧ M' 5 1 = 0) then (-5, M') else (if aMove M' b l how 20 b = -6 then 1 else 0, aMove M' b l how))) := by unfold oMove; rw [if_pos ⟨h1, h2⟩, if_pos h3]
        rw [e0]
        repeat (refine gV_s rfl (by first | exact trivial | omega) ?_)
        refine gV_i rfl (by unfold rng; omega) (fun h4 => ?_) (fun h4 => ?_)
        · repeat (refine gV_s rfl (by first | exact trivial | omega) ?_)
          exact gV_ret rfl trivial (doesP (by rw [if_pos (Or.inl h4)]))
        · repeat (refine gV_s rfl (by first | exact trivial | omega) ?_)
          refine gV_cV (ok_isUnsettled (d := d + 5) (M := M') (b := b) h1.1 h1.2 (by unfold rng; omega) (by unfold rng; omega)) mX0_isUnsettled_ok sX6_X0_isUnsettled rfl rfl rfl rfl rfl rfl ?_
          rintro r M'' ⟨rfl, ⟨h5, rfl⟩ | ⟨h5, rfl⟩⟩
          · refine gV_in rfl (by unfold rng; omega) (by omega) ?_
            repeat (refine gV_s rfl (by first | exact trivial | omega) ?_)
            exact gV_ret rfl trivial (doesP (by rw [if_pos (Or.inr h5)]))
          · refine gV_it rfl (by unfold rng; omega) rfl ?_
            rw [if_neg (by omega)]
            repeat (refine gV_s rfl (by first | exact trivial | omega) ?_)
            refine gV_i rfl (by unfold rng; omega) (fun h6 => ?_) (fun h6 => ?_)
            · repeat (refine gV_s rfl (by first | exact trivial | omega) ?_)
              exact gV_ret rfl trivial (doesP (by rw [if_pos (Or.inl h6)]))
            · have hu : M'' 9 l = 1 := by omega
              repeat (refine gV_s rfl (by first | exact trivial | omega) ?_)
              refine gV_i rfl (by unfold rng; omega) (fun h7 => ?_) (fun h7 => ?_)
              · repeat (refine gV_s rfl (by first | exact trivial | omega) ?_)
                exact gV_ret rfl trivial (doesP (by rw [if_pos (Or.inr (Or.inl h7))]))
              · have fin : ¬ (how = 2 ∧ M'' 5 1 = 0) → gV mX6_move (d + 6) (does (if M'' 9 l = 0 ∨ M'' 19 b = l ∨ how = 2 ∧ M'' 5 1 = 0 then (-5, M'') else (if aMove M'' b l how 20 b = -6 then 1 else 0, aMove M'' b l how))) 111 [vR 0, vI b, vI l, vI how] [] M'' := by
                  intro h8
                  rw [if_neg (by omega)]
                  repeat (refine gV_s rfl (by first | exact trivial | omega) ?_)
                  refine gV_cV (ok_startMove (d := d) h h1.1 h1.2 hu h4 h7 (by omega) h3) mX5_startMove_ok sX6_X5_startMove rfl rfl rfl rfl rfl rfl ?_
                  rintro r M' ⟨rfl, ⟨h9, rfl⟩ | ⟨h9, rfl⟩⟩
                  · refine gV_cS (ok_oneIf (d := d + 5) (P := does (if aMove M'' b l how 20 b = -6 then 1 else 0, aMove M'' b l how)) (Or.inr rfl) (doesP (by rw [if_pos h9]))) mX6_oneIf_ok sX6_X6_oneIf rfl rfl rfl rfl ?_
                    rintro r M' ⟨rfl, rfl⟩
                    exact gV_ret rfl trivial ⟨rfl, rfl⟩
                  · refine gV_cS (ok_oneIf (d := d + 5) (P := does (if aMove M'' b l how 20 b = -6 then 1 else 0, aMove M'' b l how)) (Or.inl rfl) (doesP (by rw [if_neg h9]))) mX6_oneIf_ok sX6_X6_oneIf rfl rfl rfl rfl ?_
                    rintro r M' ⟨rfl, rfl⟩
                    exact gV_ret rfl trivial ⟨rfl, rfl⟩
                repeat (refine gV_s rfl (by first | exact trivial | omega) ?_)
                refine gV_i rfl (by unfold rng; omega) (fun h8 => ?_) (fun h8 => ?_)
                · repeat (refine gV_s rfl (by first | exact trivial | omega) ?_)
                  refine gV_i rfl (by unfold rng; omega) (fun h9 => ?_) (fun h9 => ?_)
                  · repeat (refine gV_s rfl (by first | exact trivial | omega) ?_)
                    exact gV_ret rfl trivial (doesP (by rw [if_pos (Or.inr (Or.inr ⟨h8, h9⟩))]))
                  · exact fin (by omega)
                · exact fin (by omega)
      · refine gV_it rfl (by unfold rng; omega) rfl ?_
        repeat (refine gV_s rfl (by first | exact trivial | omega) ?_)
        exact gV_ret rfl trivial (doesP (by unfold oMove; rw [if_pos ⟨h1, h2⟩, if_neg h3]))
    · refine gV_it rfl (by unfold rng; omega) rfl ?_
      repeat (refine gV_s rfl (by first | exact trivial | omega) ?_)
      exact gV_ret rfl trivial (doesP (by unfold oMove; rw [if_neg (fun q => h2 q.2)]))
  · refine gV_it rfl (by unfold rng; omega) rfl ?_
    repeat (refine gV_s rfl (by first | exact trivial | omega) ?_)
    exact gV_ret rfl trivial (doesP (by unfold oMove; rw [if_neg (fun q => h1 q.1)]))
theorem ok_cDrop {d : Nat} {M : Mem} {b : Int} (h : NI M) (hb : rng b) : gOk mX6_drop (d + 4) [vR 0, vI b] M (does (oDrop M b)) := by
  refine gOk_of mX6_drop_ok (by simp) (Nat.le_of_ble_eq_true rfl) ?_
  repeat (refine gV_s rfl (by first | exact trivial | omega) ?_)
  refine gV_cS (ok_isBelow (d := d + 3) (M := M) hb (by unfold rng; omega)) mX6_isBelow_ok sX6_X6_isBelow rfl rfl rfl rfl ?_
  rintro r M' ⟨rfl, ⟨h1, rfl⟩ | ⟨h1, rfl⟩⟩
  · refine gV_in rfl (by unfold rng; omega) (by omega) ?_
    have hbk := AI_bk h b
    have hJ := h.2.2.1 b
    repeat (refine gV_s rfl (by first | exact trivial | omega) ?_)
    refine gV_i rfl (by unfold rng; omega) (fun h2 => ?_) (fun h2 => ?_)
    · repeat (refine gV_s rfl (by first | exact trivial | omega) ?_)
      exact gV_ret rfl trivial (doesP (by unfold oDrop; rw [if_pos h1, if_pos h2]))
    · have hu : M' 19 b = -6 ∨ M' 9 (M' 19 b) = 1 := by
        rcases hJ.1 with q | ⟨q1, q2, q3 | q3⟩
        · exact Or.inl q
        · exact Or.inr q3
        · omega
      repeat (refine gV_s rfl (by first | exact trivial | omega) ?_)
      refine gV_cV (ok_cancel (d := d) (P := does (oDrop M' b)) h h1.1 h1.2 hu (doesP (by unfold oDrop; rw [if_pos h1, if_neg h2]))) mX5_cancelMove_ok sX6_X5_cancelMove rfl rfl rfl rfl rfl rfl ?_
      rintro r M'' ⟨rfl, rfl⟩
      exact gV_ret rfl trivial ⟨rfl, rfl⟩
  · refine gV_it rfl (by unfold rng; omega) rfl ?_
    repeat (refine gV_s rfl (by first | exact trivial | omega) ?_)
    exact gV_ret rfl trivial (doesP (by unfold oDrop; rw [if_neg h1]))
theorem ok_cFail {d : Nat} {M : Mem} {l : Int} (h : NI M) (hl : rng l) : gOk mX6_fail (d + 6) [vR 0, vI l] M (does (oFail M l)) := by
  have hL := h.1.1
  refine gOk_of mX6_fail_ok (by simp) (Nat.le_of_ble_eq_true rfl) ?_
  repeat (refine gV_s rfl (by first | exact trivial | omega) ?_)
  refine gV_cS (ok_isBelow (d := d + 5) (M := M) hl (by unfold rng; omega)) mX6_isBelow_ok sX6_X6_isBelow rfl rfl rfl rfl ?_
  rintro r M' ⟨rfl, ⟨h1, rfl⟩ | ⟨h1, rfl⟩⟩
  · refine gV_in rfl (by unfold rng; omega) (by omega) ?_
    have hup := h.2.1.2.1 l
    repeat (refine gV_s rfl (by first | exact trivial | omega) ?_)
    refine gV_i rfl (by unfold rng; omega) (fun h2 => ?_) (fun h2 => ?_)
    · repeat (refine gV_s rfl (by first | exact trivial | omega) ?_)
      exact gV_ret rfl trivial (doesP (by unfold oFail; rw [if_pos h1, if_pos h2]))
    · repeat (refine gV_s rfl (by first | exact trivial | omega) ?_)
      refine gV_cV (ok_break (d := d) (P := does (oFail M' l)) h (by omega) (doesP (by unfold oFail; rw [if_pos h1, if_neg h2]))) mX5_breakLink_ok sX6_X5_breakLink rfl rfl rfl rfl rfl rfl ?_
      rintro r M'' ⟨rfl, rfl⟩
      exact gV_ret rfl trivial ⟨rfl, rfl⟩
  · refine gV_it rfl (by unfold rng; omega) rfl ?_
    repeat (refine gV_s rfl (by first | exact trivial | omega) ?_)
    exact gV_ret rfl trivial (doesP (by unfold oFail; rw [if_neg h1]))
theorem ok_cBack {d : Nat} {M : Mem} {l : Int} (h : NI M) (hl : rng l) : gOk mX6_back (d + 4) [vR 0, vI l] M (does (oBack M l)) := by
  have hL := h.1.1
  refine gOk_of mX6_back_ok (by simp) (Nat.le_of_ble_eq_true rfl) ?_
  repeat (refine gV_s rfl (by first | exact trivial | omega) ?_)
  refine gV_cS (ok_isBelow (d := d + 3) (M := M) hl (by unfold rng; omega)) mX6_isBelow_ok sX6_X6_isBelow rfl rfl rfl rfl ?_
  rintro r M' ⟨rfl, ⟨h1, rfl⟩ | ⟨h1, rfl⟩⟩
  · refine gV_in rfl (by unfold rng; omega) (by omega) ?_
    have hup := h.2.1.2.1 l
    repeat (refine gV_s rfl (by first | exact trivial | omega) ?_)
    refine gV_i rfl (by unfold rng; omega) (fun h2 => ?_) (fun h2 => ?_)
    · repeat (refine gV_s rfl (by first | exact trivial | omega) ?_)
      refine gV_cV (ok_takeIn (d := d) (P := does (oBack M' l)) (AI_up1 h h1.1 h1.2) (by rw [mw_rs, up1_s]) (doesP (by unfold oBack; rw [if_pos h1, if_pos h2, mw_rn _ _ _ (by decide)]; rfl))) mX5_takeIn_ok sX6_X5_takeIn rfl rfl rfl rfl rfl rfl ?_
      rintro r M'' ⟨rfl, rfl⟩
      exact gV_ret rfl trivial ⟨rfl, rfl⟩
    · repeat (refine gV_s rfl (by first | exact trivial | omega) ?_)
      exact gV_ret rfl trivial (doesP (by unfold oBack; rw [if_pos h1, if_neg h2]))
  · refine gV_it rfl (by unfold rng; omega) rfl ?_
    repeat (refine gV_s rfl (by first | exact trivial | omega) ?_)
    exact gV_ret rfl trivial (doesP (by unfold oBack; rw [if_neg h1]))
def rLetter (S : Mem) (i w : Int) : Int := if 0 ≤ i ∧ i < S 4 0 then (if w = 0 then S 31 i else if w = 1 then S 32 i else if w = 2 then S 33 i else if w = 3 then S 34 i else if w = 4 then S 35 i else if w = 5 then S 36 i else if w = 6 then S 37 i else if w = 7 then S 38 i else if w = 8 then S 39 i else -2) else -1
theorem ok_cLetter {d : Nat} {M : Mem} {i w : Int} (h : NI M) (hi : rng i) (hw : rng w) : gOk mX6_letter (d + 1) [vR 0, vI i, vI w] M (does (rLetter M i w, M)) := by
  have hn := h.1.2.2.1
  refine gOk_of mX6_letter_ok (by simp) (Nat.le_of_ble_eq_true rfl) ?_
  repeat (refine gV_s rfl (by first | exact trivial | omega) ?_)
  refine gV_cS (ok_isBelow (d := d) (M := M) hi (by unfold rng; omega)) mX6_isBelow_ok sX6_X6_isBelow rfl rfl rfl rfl ?_
  rintro r M' ⟨rfl, ⟨h1, rfl⟩ | ⟨h1, rfl⟩⟩
  · refine gV_in rfl (by unfold rng; omega) (by omega) ?_
    have e : rLetter M' i w = (if w = 0 then M' 31 i else if w = 1 then M' 32 i else if w = 2 then M' 33 i else if w = 3 then M' 34 i else if w = 4 then M' 35 i else if w = 5 then M' 36 i else if w = 6 then M' 37 i else if w = 7 then M' 38 i else if w = 8 then M' 39 i else -2) := by unfold rLetter; rw [if_pos h1]
    rw [e]
    by_cases hc : 0 ≤ w ∧ w ≤ 8
    · have hcs : w = 0 ∨ w = 1 ∨ w = 2 ∨ w = 3 ∨ w = 4 ∨ w = 5 ∨ w = 6 ∨ w = 7 ∨ w = 8 := by omega
      rcases hcs with rfl | rfl | rfl | rfl | rfl | rfl | rfl | rfl | rfl
      · repeat (refine gV_s rfl (by first | exact trivial | omega) ?_)
        refine gV_swIn 68 rfl (by unfold rng; omega) (by decide) (by decide) rfl (by decide) ?_
        repeat (refine gV_s rfl (by first | exact trivial | omega) ?_)
        exact gV_ret rfl trivial (doesP rfl)
      · repeat (refine gV_s rfl (by first | exact trivial | omega) ?_)
        refine gV_swIn 78 rfl (by unfold rng; omega) (by decide) (by decide) rfl (by decide) ?_
        repeat (refine gV_s rfl (by first | exact trivial | omega) ?_)
        exact gV_ret rfl trivial (doesP rfl)
      · repeat (refine gV_s rfl (by first | exact trivial | omega) ?_)
        refine gV_swIn 88 rfl (by unfold rng; omega) (by decide) (by decide) rfl (by decide) ?_
        repeat (refine gV_s rfl (by first | exact trivial | omega) ?_)
        exact gV_ret rfl trivial (doesP rfl)
      · repeat (refine gV_s rfl (by first | exact trivial | omega) ?_)
        refine gV_swIn 98 rfl (by unfold rng; omega) (by decide) (by decide) rfl (by decide) ?_
        repeat (refine gV_s rfl (by first | exact trivial | omega) ?_)
        exact gV_ret rfl trivial (doesP rfl)
      · repeat (refine gV_s rfl (by first | exact trivial | omega) ?_)
        refine gV_swIn 108 rfl (by unfold rng; omega) (by decide) (by decide) rfl (by decide) ?_
        repeat (refine gV_s rfl (by first | exact trivial | omega) ?_)
        exact gV_ret rfl trivial (doesP rfl)
      · repeat (refine gV_s rfl (by first | exact trivial | omega) ?_)
        refine gV_swIn 118 rfl (by unfold rng; omega) (by decide) (by decide) rfl (by decide) ?_
        repeat (refine gV_s rfl (by first | exact trivial | omega) ?_)
        exact gV_ret rfl trivial (doesP rfl)
      · repeat (refine gV_s rfl (by first | exact trivial | omega) ?_)
        refine gV_swIn 128 rfl (by unfold rng; omega) (by decide) (by decide) rfl (by decide) ?_
        repeat (refine gV_s rfl (by first | exact trivial | omega) ?_)
        exact gV_ret rfl trivial (doesP rfl)
      · repeat (refine gV_s rfl (by first | exact trivial | omega) ?_)
        refine gV_swIn 138 rfl (by unfold rng; omega) (by decide) (by decide) rfl (by decide) ?_
        repeat (refine gV_s rfl (by first | exact trivial | omega) ?_)
        exact gV_ret rfl trivial (doesP rfl)
      · repeat (refine gV_s rfl (by first | exact trivial | omega) ?_)
        refine gV_swIn 148 rfl (by unfold rng; omega) (by decide) (by decide) rfl (by decide) ?_
        repeat (refine gV_s rfl (by first | exact trivial | omega) ?_)
        exact gV_ret rfl trivial (doesP rfl)
    · repeat (refine gV_s rfl (by first | exact trivial | omega) ?_)
      refine gV_swOut 158 rfl hw (by omega) (by decide) ?_
      repeat (refine gV_s rfl (by first | exact trivial | omega) ?_)
      refine gV_ret rfl trivial (doesP ?_)
      simp only [show ¬ w = 0 by omega, show ¬ w = 1 by omega, show ¬ w = 2 by omega, show ¬ w = 3 by omega, show ¬ w = 4 by omega, show ¬ w = 5 by omega, show ¬ w = 6 by omega, show ¬ w = 7 by omega, show ¬ w = 8 by omega, if_false]
  · refine gV_it rfl (by unfold rng; omega) rfl ?_
    repeat (refine gV_s rfl (by first | exact trivial | omega) ?_)
    exact gV_ret rfl trivial (doesP (by unfold rLetter; rw [if_neg h1]))
/-! sums over flows -/
def sm (g : Int → Int) : Nat → Int
  | 0 => 0
  | k + 1 => sm g k + g k
theorem sm_s (g : Int → Int) (k : Nat) : sm g (k + 1) = sm g k + g k := rfl
theorem sm_bd {g : Int → Int} {c : Int} : ∀ {n : Nat}, (∀ i : Int, 0 ≤ i → i < n → 0 ≤ g i ∧ g i ≤ c) → 0 ≤ sm g n ∧ sm g n ≤ n * c
  | 0, _ => by simp [sm]
  | n + 1, h => by
    have h1 := sm_bd (n := n) (fun i a b => h i a (by omega))
    have h2 := h n (by omega) (by omega)
    rw [sm_s]
    have e : ((n + 1 : Nat) : Int) * c = n * c + c := by push_cast; rw [Int.add_mul, Int.one_mul]
    rw [e]
    omega
/-- rates of the flows in a bucket; load of a link -/
def rtB (S : Mem) (b : Int) : Int → Int := fun f => if bkO S f = b then S 24 f else 0
def ldL (S : Mem) (l : Int) : Int → Int := fun f => if S 19 (bkO S f) = l then S 24 f else 0
def rates (S : Mem) (b : Int) : Int := sm (rtB S b) (S 3 0).toNat
def load (S : Mem) (l : Int) : Int := sm (ldL S l) (S 3 0).toNat
theorem rate_loop {d : Nat} {M : Mem} {lo : Int → Int} {x b : Int} {P : PV → Mem → Prop} (h : AI M lo x) (hb : rng b) (hP : P (vI (rates M b)) M) : ∀ (n k : Nat), (k : Int) + n = M 3 0 → gV mX1_rateOfBucket (d + 1) P 9 [vR 3, vI b, vI (sm (rtB M b) k), vI k] [vI (M 3 0), vI k] M
  | 0, k, hk => by
    have hF := h.1.2.1
    have e : k = (M 3 0).toNat := by omega
    refine gV_it rfl (by unfold rng; omega) (by omega) ?_
    repeat (refine gV_s rfl (by first | exact trivial | omega) ?_)
    unfold rates at hP
    rw [← e] at hP
    exact gV_ret rfl trivial hP
  | n + 1, k, hk => by
    have hF := h.1.2.1
    have ha := h.1.2.2.2.2.2
    have hff := h.2.2.2.2.2.1 k
    have hbk := bkO_in h (f := k) (by omega) (by omega)
    have ih := rate_loop (d := d) h hb hP n (k + 1) (by push_cast; omega)
    rw [sm_s] at ih
    refine gV_in rfl (by unfold rng; omega) (by omega) ?_
    repeat (refine gV_s rfl (by first | exact trivial | omega) ?_)
    refine gV_cV (ok_bucketOf (d := d) (P := fun r M' => r = vI (bkO M k) ∧ M' = M) (f := k) (by omega) (by omega) ha.1 ha.2.1 (by unfold rng; omega) ⟨rfl, rfl⟩) mX1_bucketOf_ok sX1_X1_bucketOf rfl rfl rfl rfl rfl rfl ?_
    rintro r M' ⟨rfl, rfl⟩
    unfold rng at hb
    repeat (refine gV_s rfl (by first | exact trivial | omega) ?_)
    refine gV_i rfl (by unfold rng; omega) (fun h2 => ?_) (fun h2 => ?_)
    · rw [show rtB M' b k = M' 24 k by unfold rtB; rw [if_pos h2]] at ih
      repeat (refine gV_s rfl (by first | exact trivial | omega) ?_)
      exact ih
    · rw [show rtB M' b k = 0 by unfold rtB; rw [if_neg h2], Int.add_zero] at ih
      repeat (refine gV_s rfl (by first | exact trivial | omega) ?_)
      exact ih
theorem ok_rateOfBucket {d : Nat} {M : Mem} {lo : Int → Int} {x b : Int} {P : PV → Mem → Prop} (h : AI M lo x) (hb : rng b) (hP : P (vI (rates M b)) M) : gOk mX1_rateOfBucket (d + 1) [vR 3, vI b] M P := by
  have hF := h.1.2.1
  refine gOk_of mX1_rateOfBucket_ok (by simp) (Nat.le_of_ble_eq_true rfl) ?_
  repeat (refine gV_s rfl (by first | exact trivial | omega) ?_)
  exact rate_loop h hb hP (M 3 0).toNat 0 (by omega)
theorem load_loop {d : Nat} {M : Mem} {lo : Int → Int} {x l : Int} {P : PV → Mem → Prop} (h : AI M lo x) (hl : rng l) (hP : P (vI (load M l)) M) : ∀ (n k : Nat), (k : Int) + n = M 3 0 → gV mX4_loadOf (d + 1) P 12 [vR 6, vI l, vI (sm (ldL M l) k), vI k] [vI (M 3 0), vI k] M
  | 0, k, hk => by
    have hF := h.1.2.1
    have e : k = (M 3 0).toNat := by omega
    refine gV_it rfl (by unfold rng; omega) (by omega) ?_
    repeat (refine gV_s rfl (by first | exact trivial | omega) ?_)
    unfold load at hP
    rw [← e] at hP
    exact gV_ret rfl trivial hP
  | n + 1, k, hk => by
    have hF := h.1.2.1
    have ha := h.1.2.2.2.2.2
    have hff := h.2.2.2.2.2.1 k
    have hbk := bkO_in h (f := k) (by omega) (by omega)
    have hon := AI_bk h (bkO M k)
    have ih := load_loop (d := d) h hl hP n (k + 1) (by push_cast; omega)
    rw [sm_s] at ih
    refine gV_in rfl (by unfold rng; omega) (by omega) ?_
    repeat (refine gV_s rfl (by first | exact trivial | omega) ?_)
    refine gV_cV (ok_bucketOf (d := d) (P := fun r M' => r = vI (bkO M k) ∧ M' = M) (f := k) (by omega) (by omega) ha.1 ha.2.1 (by unfold rng; omega) ⟨rfl, rfl⟩) mX1_bucketOf_ok sX4_X1_bucketOf rfl rfl rfl rfl rfl rfl ?_
    rintro r M' ⟨rfl, rfl⟩
    unfold rng at hl
    repeat (refine gV_s rfl (by first | exact trivial | omega) ?_)
    refine gV_i rfl (by unfold rng; omega) (fun h2 => ?_) (fun h2 => ?_)
    · rw [show ldL M' l k = M' 24 k by unfold ldL; rw [if_pos h2]] at ih
      repeat (refine gV_s rfl (by first | exact trivial | omega) ?_)
      exact ih
    · rw [show ldL M' l k = 0 by unfold ldL; rw [if_neg h2], Int.add_zero] at ih
      repeat (refine gV_s rfl (by first | exact trivial | omega) ?_)
      exact ih
theorem ok_loadOf {d : Nat} {M : Mem} {lo : Int → Int} {x l : Int} {P : PV → Mem → Prop} (h : AI M lo x) (hl : rng l) (hP : P (vI (load M l)) M) : gOk mX4_loadOf (d + 1) [vR 6, vI l] M P := by
  have hF := h.1.2.1
  refine gOk_of mX4_loadOf_ok (by simp) (Nat.le_of_ble_eq_true rfl) ?_
  repeat (refine gV_s rfl (by first | exact trivial | omega) ?_)
  exact load_loop h hl hP (M 3 0).toNat 0 (by omega)
def rAbout (S : Mem) (l w : Int) : Int := if 0 ≤ l ∧ l < S 1 0 then (if w = 0 then S 7 l else if w = 1 then S 8 l else if w = 2 then S 9 l else if w = 3 then S 17 l - S 16 l else if w = 4 then S 16 l - S 15 l else if w = 5 then ct (is_ (S 19) l) 8 else if w = 6 then load S l else if w = 7 then S 18 l else -2) else -1
theorem ok_cAbout {d : Nat} {M : Mem} {l w : Int} (h : NI M) (hl : rng l) (hw : rng w) : gOk mX6_about (d + 2) [vR 0, vI l, vI w] M (does (rAbout M l w, M)) := by
  have hL := h.1.1
  refine gOk_of mX6_about_ok (by simp) (Nat.le_of_ble_eq_true rfl) ?_
  repeat (refine gV_s rfl (by first | exact trivial | omega) ?_)
  refine gV_cS (ok_isBelow (d := d + 1) (M := M) hl (by unfold rng; omega)) mX6_isBelow_ok sX6_X6_isBelow rfl rfl rfl rfl ?_
  rintro r M' ⟨rfl, ⟨h1, rfl⟩ | ⟨h1, rfl⟩⟩
  · refine gV_in rfl (by unfold rng; omega) (by omega) ?_
    have hup := h.2.1.2.1 l
    have e : rAbout M' l w = (if w = 0 then M' 7 l else if w = 1 then M' 8 l else if w = 2 then M' 9 l else if w = 3 then M' 17 l - M' 16 l else if w = 4 then M' 16 l - M' 15 l else if w = 5 then ct (is_ (M' 19) l) 8 else if w = 6 then load M' l else if w = 7 then M' 18 l else -2) := by unfold rAbout; rw [if_pos h1]
    rw [e]
    by_cases hc : 0 ≤ w ∧ w ≤ 7
    · have hcs : w = 0 ∨ w = 1 ∨ w = 2 ∨ w = 3 ∨ w = 4 ∨ w = 5 ∨ w = 6 ∨ w = 7 := by omega
      rcases hcs with rfl | rfl | rfl | rfl | rfl | rfl | rfl | rfl
      · repeat (refine gV_s rfl (by first | exact trivial | omega) ?_)
        refine gV_swIn 64 rfl (by unfold rng; omega) (by decide) (by decide) rfl (by decide) ?_
        repeat (refine gV_s rfl (by first | exact trivial | omega) ?_)
        exact gV_ret rfl trivial (doesP rfl)
      · repeat (refine gV_s rfl (by first | exact trivial | omega) ?_)
        refine gV_swIn 74 rfl (by unfold rng; omega) (by decide) (by decide) rfl (by decide) ?_
        repeat (refine gV_s rfl (by first | exact trivial | omega) ?_)
        exact gV_ret rfl trivial (doesP rfl)
      · repeat (refine gV_s rfl (by first | exact trivial | omega) ?_)
        refine gV_swIn 84 rfl (by unfold rng; omega) (by decide) (by decide) rfl (by decide) ?_
        repeat (refine gV_s rfl (by first | exact trivial | omega) ?_)
        refine gV_cS (ok_oneIf (d := d + 1) (P := fun r M'' => r = vI (M' 9 l) ∧ M'' = M') (by omega) ⟨rfl, rfl⟩) mX6_oneIf_ok sX6_X6_oneIf rfl rfl rfl rfl ?_
        rintro r M'' ⟨rfl, rfl⟩
        exact gV_ret rfl trivial (doesP rfl)
      · repeat (refine gV_s rfl (by first | exact trivial | omega) ?_)
        refine gV_swIn 97 rfl (by unfold rng; omega) (by decide) (by decide) rfl (by decide) ?_
        repeat (refine gV_s rfl (by first | exact trivial | omega) ?_)
        exact gV_ret rfl trivial (doesP rfl)
      · repeat (refine gV_s rfl (by first | exact trivial | omega) ?_)
        refine gV_swIn 117 rfl (by unfold rng; omega) (by decide) (by decide) rfl (by decide) ?_
        repeat (refine gV_s rfl (by first | exact trivial | omega) ?_)
        exact gV_ret rfl trivial (doesP rfl)
      · repeat (refine gV_s rfl (by first | exact trivial | omega) ?_)
        refine gV_swIn 137 rfl (by unfold rng; omega) (by decide) (by decide) rfl (by decide) ?_
        repeat (refine gV_s rfl (by first | exact trivial | omega) ?_)
        refine gV_cV (ok_howMany (d := d + 1) (P := fun r M'' => r = vI (ct (is_ (M' 19) l) 8) ∧ M'' = M') hl (fun b => by have := AI_bk h b; unfold rng; omega) ⟨rfl, rfl⟩) mX0_howManyOn_ok sX6_X0_howManyOn rfl rfl rfl rfl rfl rfl ?_
        rintro r M'' ⟨rfl, rfl⟩
        exact gV_ret rfl trivial (doesP rfl)
      · repeat (refine gV_s rfl (by first | exact trivial | omega) ?_)
        refine gV_swIn 146 rfl (by unfold rng; omega) (by decide) (by decide) rfl (by decide) ?_
        repeat (refine gV_s rfl (by first | exact trivial | omega) ?_)
        refine gV_cV (ok_loadOf (d := d) (P := fun r M'' => r = vI (load M' l) ∧ M'' = M') h hl ⟨rfl, rfl⟩) mX4_loadOf_ok sX6_X4_loadOf rfl rfl rfl rfl rfl rfl ?_
        rintro r M'' ⟨rfl, rfl⟩
        exact gV_ret rfl trivial (doesP rfl)
      · repeat (refine gV_s rfl (by first | exact trivial | omega) ?_)
        refine gV_swIn 155 rfl (by unfold rng; omega) (by decide) (by decide) rfl (by decide) ?_
        repeat (refine gV_s rfl (by first | exact trivial | omega) ?_)
        exact gV_ret rfl trivial (doesP rfl)
    · repeat (refine gV_s rfl (by first | exact trivial | omega) ?_)
      refine gV_swOut 165 rfl hw (by omega) (by decide) ?_
      repeat (refine gV_s rfl (by first | exact trivial | omega) ?_)
      refine gV_ret rfl trivial (doesP ?_)
      simp only [show ¬ w = 0 by omega, show ¬ w = 1 by omega, show ¬ w = 2 by omega, show ¬ w = 3 by omega, show ¬ w = 4 by omega, show ¬ w = 5 by omega, show ¬ w = 6 by omega, show ¬ w = 7 by omega, if_false]
  · refine gV_it rfl (by unfold rng; omega) rfl ?_
    repeat (refine gV_s rfl (by first | exact trivial | omega) ?_)
    exact gV_ret rfl trivial (doesP (by unfold rAbout; rw [if_neg h1]))
def rBucket (S : Mem) (b w : Int) : Int := if 0 ≤ b ∧ b < 8 then (if w = 0 then S 19 b else if w = 1 then S 20 b else if w = 2 then S 21 b else if w = 3 then S 22 b else if w = 4 then rates S b else if w = 5 then S 23 b else -2) else -1
theorem ok_cBucket {d : Nat} {M : Mem} {b w : Int} (h : NI M) (hb : rng b) (hw : rng w) : gOk mX6_bucket (d + 2) [vR 0, vI b, vI w] M (does (rBucket M b w, M)) := by
  refine gOk_of mX6_bucket_ok (by simp) (Nat.le_of_ble_eq_true rfl) ?_
  repeat (refine gV_s rfl (by first | exact trivial | omega) ?_)
  refine gV_cS (ok_isBelow (d := d + 1) (M := M) hb (by unfold rng; omega)) mX6_isBelow_ok sX6_X6_isBelow rfl rfl rfl rfl ?_
  rintro r M' ⟨rfl, ⟨h1, rfl⟩ | ⟨h1, rfl⟩⟩
  · refine gV_in rfl (by unfold rng; omega) (by omega) ?_
    have hbk := h.2.2.1 b
    have e : rBucket M' b w = (if w = 0 then M' 19 b else if w = 1 then M' 20 b else if w = 2 then M' 21 b else if w = 3 then M' 22 b else if w = 4 then rates M' b else if w = 5 then M' 23 b else -2) := by unfold rBucket; rw [if_pos h1]
    rw [e]
    by_cases hc : 0 ≤ w ∧ w ≤ 5
    · have hcs : w = 0 ∨ w = 1 ∨ w = 2 ∨ w = 3 ∨ w = 4 ∨ w = 5 := by omega
      rcases hcs with rfl | rfl | rfl | rfl | rfl | rfl
      · repeat (refine gV_s rfl (by first | exact trivial | omega) ?_)
        refine gV_swIn 52 rfl (by unfold rng; omega) (by decide) (by decide) rfl (by decide) ?_
        repeat (refine gV_s rfl (by first | exact trivial | omega) ?_)
        exact gV_ret rfl trivial (doesP rfl)
      · repeat (refine gV_s rfl (by first | exact trivial | omega) ?_)
        refine gV_swIn 62 rfl (by unfold rng; omega) (by decide) (by decide) rfl (by decide) ?_
        repeat (refine gV_s rfl (by first | exact trivial | omega) ?_)
        exact gV_ret rfl trivial (doesP rfl)
      · repeat (refine gV_s rfl (by first | exact trivial | omega) ?_)
        refine gV_swIn 72 rfl (by unfold rng; omega) (by decide) (by decide) rfl (by decide) ?_
        repeat (refine gV_s rfl (by first | exact trivial | omega) ?_)
        refine gV_cS (ok_oneIf (d := d + 1) (P := fun r M'' => r = vI (M' 21 b) ∧ M'' = M') hbk.2.2.1 ⟨rfl, rfl⟩) mX6_oneIf_ok sX6_X6_oneIf rfl rfl rfl rfl ?_
        rintro r M'' ⟨rfl, rfl⟩
        exact gV_ret rfl trivial (doesP rfl)
      · repeat (refine gV_s rfl (by first | exact trivial | omega) ?_)
        refine gV_swIn 85 rfl (by unfold rng; omega) (by decide) (by decide) rfl (by decide) ?_
        repeat (refine gV_s rfl (by first | exact trivial | omega) ?_)
        exact gV_ret rfl trivial (doesP rfl)
      · repeat (refine gV_s rfl (by first | exact trivial | omega) ?_)
        refine gV_swIn 95 rfl (by unfold rng; omega) (by decide) (by decide) rfl (by decide) ?_
        repeat (refine gV_s rfl (by first | exact trivial | omega) ?_)
        refine gV_cV (ok_rateOfBucket (d := d) (P := fun r M'' => r = vI (rates M' b) ∧ M'' = M') h hb ⟨rfl, rfl⟩) mX1_rateOfBucket_ok sX6_X1_rateOfBucket rfl rfl rfl rfl rfl rfl ?_
        rintro r M'' ⟨rfl, rfl⟩
        exact gV_ret rfl trivial (doesP rfl)
      · repeat (refine gV_s rfl (by first | exact trivial | omega) ?_)
        refine gV_swIn 104 rfl (by unfold rng; omega) (by decide) (by decide) rfl (by decide) ?_
        repeat (refine gV_s rfl (by first | exact trivial | omega) ?_)
        exact gV_ret rfl trivial (doesP rfl)
    · repeat (refine gV_s rfl (by first | exact trivial | omega) ?_)
      refine gV_swOut 114 rfl hw (by omega) (by decide) ?_
      repeat (refine gV_s rfl (by first | exact trivial | omega) ?_)
      refine gV_ret rfl trivial (doesP ?_)
      simp only [show ¬ w = 0 by omega, show ¬ w = 1 by omega, show ¬ w = 2 by omega, show ¬ w = 3 by omega, show ¬ w = 4 by omega, show ¬ w = 5 by omega, if_false]
  · refine gV_it rfl (by unfold rng; omega) rfl ?_
    repeat (refine gV_s rfl (by first | exact trivial | omega) ?_)
    exact gV_ret rfl trivial (doesP (by unfold rBucket; rw [if_neg h1]))
def rOfFlow (S : Mem) (f w : Int) : Int := if 0 ≤ f ∧ f < S 3 0 then (if w = 0 then S 24 f else if w = 1 then bkO S f else if w = 2 then S 26 f else if w = 3 then S 27 f else if w = 4 then S 28 f else if w = 5 then (if S 25 f = -1 then 0 else 1) else -2) else -1
theorem ok_cOfFlow {d : Nat} {M : Mem} {f w : Int} (h : NI M) (hf : rng f) (hw : rng w) : gOk mX6_ofFlow (d + 2) [vR 0, vI f, vI w] M (does (rOfFlow M f w, M)) := by
  have hF := h.1.2.1
  have ha := h.1.2.2.2.2.2
  refine gOk_of mX6_ofFlow_ok (by simp) (Nat.le_of_ble_eq_true rfl) ?_
  repeat (refine gV_s rfl (by first | exact trivial | omega) ?_)
  refine gV_cS (ok_isBelow (d := d + 1) (M := M) hf (by unfold rng; omega)) mX6_isBelow_ok sX6_X6_isBelow rfl rfl rfl rfl ?_
  rintro r M' ⟨rfl, ⟨h1, rfl⟩ | ⟨h1, rfl⟩⟩
  · refine gV_in rfl (by unfold rng; omega) (by omega) ?_
    have hff := h.2.2.2.2.2.1 f
    have e : rOfFlow M' f w = (if w = 0 then M' 24 f else if w = 1 then bkO M' f else if w = 2 then M' 26 f else if w = 3 then M' 27 f else if w = 4 then M' 28 f else if w = 5 then (if M' 25 f = -1 then 0 else 1) else -2) := by unfold rOfFlow; rw [if_pos h1]
    rw [e]
    by_cases hc : 0 ≤ w ∧ w ≤ 5
    · have hcs : w = 0 ∨ w = 1 ∨ w = 2 ∨ w = 3 ∨ w = 4 ∨ w = 5 := by omega
      rcases hcs with rfl | rfl | rfl | rfl | rfl | rfl
      · repeat (refine gV_s rfl (by first | exact trivial | omega) ?_)
        refine gV_swIn 56 rfl (by unfold rng; omega) (by decide) (by decide) rfl (by decide) ?_
        repeat (refine gV_s rfl (by first | exact trivial | omega) ?_)
        exact gV_ret rfl trivial (doesP rfl)
      · repeat (refine gV_s rfl (by first | exact trivial | omega) ?_)
        refine gV_swIn 66 rfl (by unfold rng; omega) (by decide) (by decide) rfl (by decide) ?_
        repeat (refine gV_s rfl (by first | exact trivial | omega) ?_)
        refine gV_cV (ok_bucketOf (d := d + 1) (P := fun r M'' => r = vI (bkO M' f) ∧ M'' = M') h1.1 (by omega) ha.1 ha.2.1 (by unfold rng; omega) ⟨rfl, rfl⟩) mX1_bucketOf_ok sX6_X1_bucketOf rfl rfl rfl rfl rfl rfl ?_
        rintro r M'' ⟨rfl, rfl⟩
        exact gV_ret rfl trivial (doesP rfl)
      · repeat (refine gV_s rfl (by first | exact trivial | omega) ?_)
        refine gV_swIn 75 rfl (by unfold rng; omega) (by decide) (by decide) rfl (by decide) ?_
        repeat (refine gV_s rfl (by first | exact trivial | omega) ?_)
        exact gV_ret rfl trivial (doesP rfl)
      · repeat (refine gV_s rfl (by first | exact trivial | omega) ?_)
        refine gV_swIn 85 rfl (by unfold rng; omega) (by decide) (by decide) rfl (by decide) ?_
        repeat (refine gV_s rfl (by first | exact trivial | omega) ?_)
        exact gV_ret rfl trivial (doesP rfl)
      · repeat (refine gV_s rfl (by first | exact trivial | omega) ?_)
        refine gV_swIn 95 rfl (by unfold rng; omega) (by decide) (by decide) rfl (by decide) ?_
        repeat (refine gV_s rfl (by first | exact trivial | omega) ?_)
        exact gV_ret rfl trivial (doesP rfl)
      · repeat (refine gV_s rfl (by first | exact trivial | omega) ?_)
        refine gV_swIn 105 rfl (by unfold rng; omega) (by decide) (by decide) rfl (by decide) ?_
        repeat (refine gV_s rfl (by first | exact trivial | omega) ?_)
        refine gV_i rfl (by unfold rng; omega) (fun h2 => ?_) (fun h2 => ?_)
        · repeat (refine gV_s rfl (by first | exact trivial | omega) ?_)
          refine gV_cS (ok_oneIf (d := d + 1) (P := fun r M'' => r = vI 0 ∧ M'' = M') (Or.inl rfl) ⟨rfl, rfl⟩) mX6_oneIf_ok sX6_X6_oneIf rfl rfl rfl rfl ?_
          rintro r M'' ⟨rfl, rfl⟩
          exact gV_ret rfl trivial (doesP (by simp only [show ¬ (5 : Int) = 0 by decide, show ¬ (5 : Int) = 1 by decide, show ¬ (5 : Int) = 2 by decide, show ¬ (5 : Int) = 3 by decide, show ¬ (5 : Int) = 4 by decide, if_false, if_true, h2]))
        · repeat (refine gV_s rfl (by first | exact trivial | omega) ?_)
          refine gV_cS (ok_oneIf (d := d + 1) (P := fun r M'' => r = vI 1 ∧ M'' = M') (Or.inr rfl) ⟨rfl, rfl⟩) mX6_oneIf_ok sX6_X6_oneIf rfl rfl rfl rfl ?_
          rintro r M'' ⟨rfl, rfl⟩
          exact gV_ret rfl trivial (doesP (by simp only [show ¬ (5 : Int) = 0 by decide, show ¬ (5 : Int) = 1 by decide, show ¬ (5 : Int) = 2 by decide, show ¬ (5 : Int) = 3 by decide, show ¬ (5 : Int) = 4 by decide, if_false, if_true, h2]))
    · repeat (refine gV_s rfl (by first | exact trivial | omega) ?_)
      refine gV_swOut 127 rfl hw (by omega) (by decide) ?_
      repeat (refine gV_s rfl (by first | exact trivial | omega) ?_)
      refine gV_ret rfl trivial (doesP ?_)
      simp only [show ¬ w = 0 by omega, show ¬ w = 1 by omega, show ¬ w = 2 by omega, show ¬ w = 3 by omega, show ¬ w = 4 by omega, show ¬ w = 5 by omega, if_false]
  · refine gV_it rfl (by unfold rng; omega) rfl ?_
    repeat (refine gV_s rfl (by first | exact trivial | omega) ?_)
    exact gV_ret rfl trivial (doesP (by unfold rOfFlow; rw [if_neg h1]))
def rOut (S : Mem) (i : Int) : Int := if 0 ≤ i ∧ i < S 41 4 then S 40 i else -6
theorem ok_cOut {d : Nat} {M : Mem} {i : Int} (h : NI M) (hi : rng i) : gOk mX6_out (d + 1) [vR 0, vI i] M (does (rOut M i, M)) := by
  have n4 := AI_ins h (s := 4) (by decide) (by decide)
  refine gOk_of mX6_out_ok (by simp) (Nat.le_of_ble_eq_true rfl) ?_
  repeat (refine gV_s rfl (by first | exact trivial | omega) ?_)
  refine gV_cS (ok_isBelow (d := d) (M := M) hi (by unfold rng; omega)) mX6_isBelow_ok sX6_X6_isBelow rfl rfl rfl rfl ?_
  rintro r M' ⟨rfl, ⟨h1, rfl⟩ | ⟨h1, rfl⟩⟩
  · refine gV_in rfl (by unfold rng; omega) (by omega) ?_
    repeat (refine gV_s rfl (by first | exact trivial | omega) ?_)
    exact gV_ret rfl trivial (doesP (by unfold rOut; rw [if_pos h1]))
  · refine gV_it rfl (by unfold rng; omega) rfl ?_
    repeat (refine gV_s rfl (by first | exact trivial | omega) ?_)
    exact gV_ret rfl trivial (doesP (by unfold rOut; rw [if_neg h1]))
def rOrdered (S : Mem) (f : Int) : Int := if 0 ≤ f ∧ f < S 3 0 then (if S 30 f = 0 then 1 else 0) else -1
theorem ok_cOrdered {d : Nat} {M : Mem} {f : Int} (h : NI M) (hf : rng f) : gOk mX6_ordered (d + 1) [vR 0, vI f] M (does (rOrdered M f, M)) := by
  have hF := h.1.2.1
  refine gOk_of mX6_ordered_ok (by simp) (Nat.le_of_ble_eq_true rfl) ?_
  repeat (refine gV_s rfl (by first | exact trivial | omega) ?_)
  refine gV_cS (ok_isBelow (d := d) (M := M) hf (by unfold rng; omega)) mX6_isBelow_ok sX6_X6_isBelow rfl rfl rfl rfl ?_
  rintro r M' ⟨rfl, ⟨h1, rfl⟩ | ⟨h1, rfl⟩⟩
  · refine gV_in rfl (by unfold rng; omega) (by omega) ?_
    have hm := (h.2.2.2.2.2.2.2.2.2.2.2.2.2.2.1 f h1.1 h1.2).2
    have hm2 : M' 30 f = 0 ∨ M' 30 f = 1 := by rw [hm]; unfold bi; split; exact Or.inr rfl; exact Or.inl rfl
    repeat (refine gV_s rfl (by first | exact trivial | omega) ?_)
    refine gV_i rfl (by unfold rng; omega) (fun h2 => ?_) (fun h2 => ?_)
    · repeat (refine gV_s rfl (by first | exact trivial | omega) ?_)
      refine gV_cS (ok_oneIf (d := d) (P := fun r M'' => r = vI 1 ∧ M'' = M') (Or.inr rfl) ⟨rfl, rfl⟩) mX6_oneIf_ok sX6_X6_oneIf rfl rfl rfl rfl ?_
      rintro r M'' ⟨rfl, rfl⟩
      exact gV_ret rfl trivial (doesP (by unfold rOrdered; rw [if_pos h1, if_pos h2]))
    · repeat (refine gV_s rfl (by first | exact trivial | omega) ?_)
      refine gV_cS (ok_oneIf (d := d) (P := fun r M'' => r = vI 0 ∧ M'' = M') (Or.inl rfl) ⟨rfl, rfl⟩) mX6_oneIf_ok sX6_X6_oneIf rfl rfl rfl rfl ?_
      rintro r M'' ⟨rfl, rfl⟩
      exact gV_ret rfl trivial (doesP (by unfold rOrdered; rw [if_pos h1, if_neg h2]))
  · refine gV_it rfl (by unfold rng; omega) rfl ?_
    repeat (refine gV_s rfl (by first | exact trivial | omega) ?_)
    exact gV_ret rfl trivial (doesP (by unfold rOrdered; rw [if_neg h1]))
def rTold (S : Mem) (w : Int) : Int := if w = 0 then S 5 0 else if w = 1 then S 1 0 else if w = 2 then S 3 0 else if w = 3 then S 4 0 else if w = 4 then S 41 0 else if w = 5 then S 41 1 else if w = 6 then S 41 2 else if w = 7 then S 41 3 else if w = 8 then S 41 4 else if w = 9 then S 41 5 else if w = 10 then S 5 1 else -2
theorem ok_cTold {d : Nat} {M : Mem} {w : Int} (h : NI M) (hw : rng w) : gOk mX6_told (d + 1) [vR 0, vI w] M (does (rTold M w, M)) := by
  have hno := h.1.2.2.2.2.1
  refine gOk_of mX6_told_ok (by simp) (Nat.le_of_ble_eq_true rfl) ?_
  unfold rTold
  by_cases hc : 0 ≤ w ∧ w ≤ 10
  · have hcs : w = 0 ∨ w = 1 ∨ w = 2 ∨ w = 3 ∨ w = 4 ∨ w = 5 ∨ w = 6 ∨ w = 7 ∨ w = 8 ∨ w = 9 ∨ w = 10 := by omega
    rcases hcs with rfl | rfl | rfl | rfl | rfl | rfl | rfl | rfl | rfl | rfl | rfl
    · repeat (refine gV_s rfl (by first | exact trivial | omega) ?_)
      refine gV_swIn 60 rfl (by unfold rng; omega) (by decide) (by decide) rfl (by decide) ?_
      repeat (refine gV_s rfl (by first | exact trivial | omega) ?_)
      exact gV_ret rfl trivial (doesP rfl)
    · repeat (refine gV_s rfl (by first | exact trivial | omega) ?_)
      refine gV_swIn 68 rfl (by unfold rng; omega) (by decide) (by decide) rfl (by decide) ?_
      repeat (refine gV_s rfl (by first | exact trivial | omega) ?_)
      exact gV_ret rfl trivial (doesP rfl)
    · repeat (refine gV_s rfl (by first | exact trivial | omega) ?_)
      refine gV_swIn 76 rfl (by unfold rng; omega) (by decide) (by decide) rfl (by decide) ?_
      repeat (refine gV_s rfl (by first | exact trivial | omega) ?_)
      exact gV_ret rfl trivial (doesP rfl)
    · repeat (refine gV_s rfl (by first | exact trivial | omega) ?_)
      refine gV_swIn 84 rfl (by unfold rng; omega) (by decide) (by decide) rfl (by decide) ?_
      repeat (refine gV_s rfl (by first | exact trivial | omega) ?_)
      exact gV_ret rfl trivial (doesP rfl)
    · repeat (refine gV_s rfl (by first | exact trivial | omega) ?_)
      refine gV_swIn 92 rfl (by unfold rng; omega) (by decide) (by decide) rfl (by decide) ?_
      repeat (refine gV_s rfl (by first | exact trivial | omega) ?_)
      exact gV_ret rfl trivial (doesP rfl)
    · repeat (refine gV_s rfl (by first | exact trivial | omega) ?_)
      refine gV_swIn 102 rfl (by unfold rng; omega) (by decide) (by decide) rfl (by decide) ?_
      repeat (refine gV_s rfl (by first | exact trivial | omega) ?_)
      exact gV_ret rfl trivial (doesP rfl)
    · repeat (refine gV_s rfl (by first | exact trivial | omega) ?_)
      refine gV_swIn 112 rfl (by unfold rng; omega) (by decide) (by decide) rfl (by decide) ?_
      repeat (refine gV_s rfl (by first | exact trivial | omega) ?_)
      exact gV_ret rfl trivial (doesP rfl)
    · repeat (refine gV_s rfl (by first | exact trivial | omega) ?_)
      refine gV_swIn 122 rfl (by unfold rng; omega) (by decide) (by decide) rfl (by decide) ?_
      repeat (refine gV_s rfl (by first | exact trivial | omega) ?_)
      exact gV_ret rfl trivial (doesP rfl)
    · repeat (refine gV_s rfl (by first | exact trivial | omega) ?_)
      refine gV_swIn 132 rfl (by unfold rng; omega) (by decide) (by decide) rfl (by decide) ?_
      repeat (refine gV_s rfl (by first | exact trivial | omega) ?_)
      exact gV_ret rfl trivial (doesP rfl)
    · repeat (refine gV_s rfl (by first | exact trivial | omega) ?_)
      refine gV_swIn 142 rfl (by unfold rng; omega) (by decide) (by decide) rfl (by decide) ?_
      repeat (refine gV_s rfl (by first | exact trivial | omega) ?_)
      exact gV_ret rfl trivial (doesP rfl)
    · repeat (refine gV_s rfl (by first | exact trivial | omega) ?_)
      refine gV_swIn 152 rfl (by unfold rng; omega) (by decide) (by decide) rfl (by decide) ?_
      repeat (refine gV_s rfl (by first | exact trivial | omega) ?_)
      refine gV_cS (ok_oneIf (d := d) (P := fun r M'' => r = vI (M 5 1) ∧ M'' = M) hno ⟨rfl, rfl⟩) mX6_oneIf_ok sX6_X6_oneIf rfl rfl rfl rfl ?_
      rintro r M'' ⟨rfl, rfl⟩
      exact gV_ret rfl trivial (doesP rfl)
  · repeat (refine gV_s rfl (by first | exact trivial | omega) ?_)
    refine gV_swOut 163 rfl hw (by omega) (by decide) ?_
    repeat (refine gV_s rfl (by first | exact trivial | omega) ?_)
    refine gV_ret rfl trivial (doesP ?_)
    simp only [show ¬ w = 0 by omega, show ¬ w = 1 by omega, show ¬ w = 2 by omega, show ¬ w = 3 by omega, show ¬ w = 4 by omega, show ¬ w = 5 by omega, show ¬ w = 6 by omega, show ¬ w = 7 by omega, show ¬ w = 8 by omega, show ¬ w = 9 by omega, show ¬ w = 10 by omega, if_false]
def rPlan (S : Mem) (b : Int) : Int := if 0 ≤ b ∧ b < 8 then (if S 6 0 = 0 then -3 else S 43 b) else -1
theorem ok_cPlan {d : Nat} {M : Mem} {b : Int} (h : NI M) (hb : rng b) : gOk mX6_plan (d + 1) [vR 0, vI b] M (does (rPlan M b, M)) := by
  have hp := h.1.2.2.2.2.2.2.2
  refine gOk_of mX6_plan_ok (by simp) (Nat.le_of_ble_eq_true rfl) ?_
  repeat (refine gV_s rfl (by first | exact trivial | omega) ?_)
  refine gV_cS (ok_isBelow (d := d) (M := M) hb (by unfold rng; omega)) mX6_isBelow_ok sX6_X6_isBelow rfl rfl rfl rfl ?_
  rintro r M' ⟨rfl, ⟨h1, rfl⟩ | ⟨h1, rfl⟩⟩
  · refine gV_in rfl (by unfold rng; omega) (by omega) ?_
    repeat (refine gV_s rfl (by first | exact trivial | omega) ?_)
    refine gV_i rfl (by unfold rng; omega) (fun h2 => ?_) (fun h2 => ?_)
    · repeat (refine gV_s rfl (by first | exact trivial | omega) ?_)
      exact gV_ret rfl trivial (doesP (by unfold rPlan; rw [if_pos h1, if_pos h2]))
    · repeat (refine gV_s rfl (by first | exact trivial | omega) ?_)
      exact gV_ret rfl trivial (doesP (by unfold rPlan; rw [if_pos h1, if_neg h2]))
  · refine gV_it rfl (by unfold rng; omega) rfl ?_
    repeat (refine gV_s rfl (by first | exact trivial | omega) ?_)
    exact gV_ret rfl trivial (doesP (by unfold rPlan; rw [if_neg h1]))
end
section
/-! The reference's rows beside the state S: equal, and its stamps follow the queues. -/
def Rr (S M : Mem) : Prop := M 48 = S 7 ∧ M 49 = S 8 ∧ M 50 = S 9 ∧ M 51 = S 18 ∧ M 52 = S 19 ∧ M 53 = S 20 ∧ M 54 = S 21 ∧ M 55 = S 23 ∧ M 56 = S 24 ∧ M 57 = S 25 ∧
  M 58 = S 31 ∧ M 59 = S 32 ∧ M 60 = S 33 ∧ M 61 = S 34 ∧ M 62 = S 35 ∧ M 63 = S 36 ∧ M 64 = S 37 ∧ M 65 = S 38 ∧ M 66 = S 39 ∧ M 69 = S 40 ∧ M 70 = S 43
def Rs (S M : Mem) : Prop := M 47 0 = S 5 0 ∧ M 47 1 = S 1 0 ∧ M 47 10 = S 3 0 ∧ M 47 13 = S 3 1 ∧ M 47 14 = S 3 2 ∧ M 47 15 = S 5 1 ∧ M 47 16 = S 4 0 ∧ M 47 29 = S 41 4 ∧ M 47 31 = S 6 0
/-- stamps -/
def Rt (ws qs qe : Int → Int) (rw : Int → Int → Int) (q l : Int → Int) (s B : Int) : Prop :=
  (0 ≤ s ∧ s ≤ B) ∧ (∀ i, 0 ≤ q i ∧ q i ≤ s ∧ 0 ≤ l i ∧ l i ≤ s) ∧
  ∀ k, 0 ≤ k → k < 4 → (∀ p, qs k ≤ p → p < qe k → q (rw k p) < s) ∧ (∀ p p', qs k ≤ p → p < p' → p' < qe k → q (rw k p) < q (rw k p')) ∧ (∀ p, ws k ≤ p → p < qs k → l (rw k p) < s) ∧ (∀ p p', ws k ≤ p → p < p' → p' < qs k → l (rw k p) < l (rw k p'))
def RM (S M : Mem) (B : Int) : Prop := Rr S M ∧ Rs S M ∧ Rt (S 15) (S 16) (S 17) (qr S) (M 67) (M 68) (M 47 28) B
def Fr (M M' : Mem) : Prop := ∀ r, r < 47 → M' r = M r
theorem Fr.rf {M : Mem} : Fr M M := fun _ _ => rfl
theorem Fr.w {M M' : Mem} (h : Fr M M') {r : Nat} (hr : 47 ≤ r) {i v : Int} : Fr M (mw M' r i v) := fun q hq => by rw [mw_rn _ _ _ (by omega), h q hq]
theorem Fr.tr {M M' M'' : Mem} (h : Fr M M') (h2 : Fr M' M'') : Fr M M'' := fun q hq => (h2 q hq).trans (h q hq)
theorem Rt_B {ws qs qe : Int → Int} {rw : Int → Int → Int} {q l : Int → Int} {s B B' : Int} (h : Rt ws qs qe rw q l s B) (hB : B ≤ B') : Rt ws qs qe rw q l s B' := ⟨⟨h.1.1, by have := h.1.2; omega⟩, h.2⟩
theorem RM_B {S M : Mem} {B B' : Int} (h : RM S M B) (hB : B ≤ B') : RM S M B' := ⟨h.1, h.2.1, Rt_B h.2.2 hB⟩
/-- the rows that the reference knows -/
def kn (r : Nat) : Bool := r == 1 || r == 3 || r == 4 || r == 5 || r == 6 || r == 7 || r == 8 || r == 9 || r == 11 || r == 12 || r == 13 || r == 14 || r == 15 || r == 16 || r == 17 || r == 18 || r == 19 || r == 20 || r == 21 || r == 23 || r == 24 || r == 25 || r == 31 || r == 32 || r == 33 || r == 34 || r == 35 || r == 36 || r == 37 || r == 38 || r == 39 || r == 40 || r == 41 || r == 43
theorem RM_S {S S' M : Mem} {B : Int} (h : RM S M B) (hS : ∀ r, kn r = true → S' r = S r) : RM S' M B := by
  have hq : qr S' = qr S ∨ True := Or.inr trivial
  obtain ⟨h1, h2, h3⟩ := h
  refine ⟨?_, ?_, ?_⟩
  · unfold Rr
    rw [hS 7 rfl, hS 8 rfl, hS 9 rfl, hS 18 rfl, hS 19 rfl, hS 20 rfl, hS 21 rfl, hS 23 rfl, hS 24 rfl, hS 25 rfl, hS 31 rfl, hS 32 rfl, hS 33 rfl, hS 34 rfl, hS 35 rfl, hS 36 rfl, hS 37 rfl, hS 38 rfl, hS 39 rfl, hS 40 rfl, hS 43 rfl]
    exact h1
  · unfold Rs
    rw [hS 5 rfl, hS 1 rfl, hS 3 rfl, hS 4 rfl, hS 41 rfl, hS 6 rfl]
    exact h2
  · obtain ⟨a, b, c⟩ := h3
    rw [hS 15 rfl, hS 16 rfl, hS 17 rfl]
    refine ⟨a, b, fun k k0 k4 => ?_⟩
    have e : ∀ p, qr S' k p = qr S k p := fun p => by
      show S' (11 + k.toNat) p = S (11 + k.toNat) p
      have : k = 0 ∨ k = 1 ∨ k = 2 ∨ k = 3 := by omega
      rcases this with rfl | rfl | rfl | rfl
      · rw [show 11 + (0 : Int).toNat = 11 from rfl, hS 11 rfl]
      · rw [show 11 + (1 : Int).toNat = 12 from rfl, hS 12 rfl]
      · rw [show 11 + (2 : Int).toNat = 13 from rfl, hS 13 rfl]
      · rw [show 11 + (3 : Int).toNat = 14 from rfl, hS 14 rfl]
    simp only [e]
    exact c k k0 k4
theorem RM_M {S M M' : Mem} {B : Int} (h : RM S M B) (hM : ∀ r, 47 ≤ r → r < 71 → M' r = M r) : RM S M' B := by
  unfold RM Rr Rs at *
  rw [hM 47 (by omega) (by omega), hM 48 (by omega) (by omega), hM 49 (by omega) (by omega), hM 50 (by omega) (by omega), hM 51 (by omega) (by omega), hM 52 (by omega) (by omega), hM 53 (by omega) (by omega), hM 54 (by omega) (by omega), hM 55 (by omega) (by omega), hM 56 (by omega) (by omega), hM 57 (by omega) (by omega), hM 58 (by omega) (by omega), hM 59 (by omega) (by omega), hM 60 (by omega) (by omega), hM 61 (by omega) (by omega), hM 62 (by omega) (by omega), hM 63 (by omega) (by omega), hM 64 (by omega) (by omega), hM 65 (by omega) (by omega), hM 66 (by omega) (by omega), hM 67 (by omega) (by omega), hM 68 (by omega) (by omega), hM 69 (by omega) (by omega), hM 70 (by omega) (by omega)]
  exact h
/-! what its numbers may be -/
def MR (M : Mem) : Prop := (0 ≤ M 47 16 ∧ M 47 16 ≤ 400) ∧ (0 ≤ M 47 1 ∧ M 47 1 ≤ 4) ∧ (0 ≤ M 47 10 ∧ M 47 10 ≤ 16) ∧ (0 ≤ M 47 0 ∧ M 47 0 ≤ 1000000) ∧ (M 47 15 = 0 ∨ M 47 15 = 1) ∧ (0 ≤ M 47 13 ∧ M 47 13 ≤ 7) ∧ (0 ≤ M 47 14 ∧ M 47 14 ≤ 7) ∧ (M 47 31 = 0 ∨ M 47 31 = 1) ∧ (0 ≤ M 47 29 ∧ M 47 29 ≤ 400) ∧
  (∀ i, (0 ≤ M 58 i ∧ M 58 i < 16) ∧ (0 ≤ M 59 i ∧ M 59 i ≤ 400) ∧ (0 ≤ M 60 i ∧ M 60 i < 8) ∧ (0 ≤ M 61 i ∧ M 61 i ≤ 5) ∧ (-6 ≤ M 65 i ∧ M 65 i ≤ 2000000) ∧ (0 ≤ i → i < M 47 16 → -6 ≤ M 62 i ∧ M 62 i < 4)) ∧
  (∀ b, (-6 ≤ M 52 b ∧ M 52 b < 4) ∧ (-6 ≤ M 53 b ∧ M 53 b < 4) ∧ (M 54 b = 0 ∨ M 54 b = 1)) ∧
  (∀ l, (0 ≤ M 48 l ∧ M 48 l ≤ 8) ∧ (0 ≤ M 49 l ∧ M 49 l ≤ 30) ∧ (M 50 l = 0 ∨ M 50 l = 1)) ∧
  (∀ f, (0 ≤ M 56 f ∧ M 56 f ≤ 100) ∧ (-1 ≤ M 57 f ∧ M 57 f ≤ 7)) ∧
  (∀ i, rng (M 67 i) ∧ rng (M 68 i)) ∧ (0 ≤ M 47 28 ∧ M 47 28 ≤ 2000000000)
theorem MR_of {S M : Mem} {lo : Int → Int} {x B : Int} (h : AI S lo x) (hR : RM S M B) (hB : B ≤ 2000000000) : MR M := by
  obtain ⟨⟨e48, e49, e50, e51, e52, e53, e54, e55, e56, e57, e58, e59, e60, e61, e62, e63, e64, e65, e66, e69, e70⟩, ⟨t1, t2, t3, t4, t5, t6, t7, t8, t9⟩, ⟨s1, s2, s3⟩⟩ := hR
  have n4 := AI_ins h (s := 4) (by decide) (by decide)
  obtain ⟨ha, hl, hb, hn, hh, hf, ht, ks, kh, kf, kl, hq, hi, ho⟩ := id h
  unfold MR
  rw [e48, e49, e50, e52, e53, e54, e56, e57, e58, e59, e60, e61, e62, e65, t1, t2, t3, t4, t5, t6, t7, t8, t9]
  refine ⟨ha.2.2.1, ha.1, ha.2.1, ha.2.2.2.1, ha.2.2.2.2.1, ha.2.2.2.2.2.1, ha.2.2.2.2.2.2.1, ha.2.2.2.2.2.2.2, n4, fun i => ?_, fun b => ?_, fun l => ?_, fun f => ?_, fun i => ?_, ⟨s1.1, by omega⟩⟩
  · obtain ⟨q1, q2, q3, q4, q5⟩ := ht i
    refine ⟨⟨q1.1, q1.2.1⟩, q2, q3, q4, q5, fun a b => ?_⟩
    have hL := ha.1
    rcases hi i a b with q | q
    · omega
    · omega
  · have := AI_bk h b
    have h3 := (hb b).2.2.1
    exact ⟨this.1, this.2.1, h3⟩
  · have h1 := hl.2.2 l
    have h2 := hl.2.1 l
    omega
  · have h1 := hf f
    omega
  · have := s2 i
    unfold rng
    omega
/-! queueing -/
def mQueue (M : Mem) (i l : Int) : Mem := mw (mw (mw (mw M 61 i 1) 62 i l) 67 i (M 47 28)) 47 28 (M 47 28 + 1)
theorem Rt_enq {ws qs qe : Int → Int} {rw : Int → Int → Int} {q lv : Int → Int} {s B i l : Int} (h : Rt ws qs qe rw q lv s B) (l0 : 0 ≤ l) (l4 : l < 4) (hws : ∀ k, 0 ≤ k → k < 4 → 0 ≤ ws k ∧ ws k ≤ qs k ∧ qs k ≤ qe k) (hi : ∀ k p, 0 ≤ k → k < 4 → 0 ≤ p → p < qe k → rw k p ≠ i) : Rt ws qs (up1 qe l (qe l + 1)) (rw1 rw l (qe l) i) (up1 q i s) lv (s + 1) (B + 1) := by
  obtain ⟨h1, h2, h3⟩ := h
  refine ⟨⟨by omega, by omega⟩, fun j => ?_, fun k k0 k4 => ?_⟩
  · have := h2 j
    rw [up1_e]
    split <;> omega
  · obtain ⟨a1, a2, a3, a4⟩ := h3 k k0 k4
    have hk := hws k k0 k4
    by_cases e : k = l
    · subst e
      rw [up1_s]
      have old : ∀ p, 0 ≤ p → p < qe k → rw1 rw k (qe k) i k p = rw k p := fun p p0 p1 => by unfold rw1; rw [if_neg (by omega)]
      have new : rw1 rw k (qe k) i k (qe k) = i := by unfold rw1; rw [if_pos ⟨rfl, rfl⟩]
      refine ⟨fun p p0 p1 => ?_, fun p p' p0 p1 p2 => ?_, fun p p0 p1 => ?_, fun p p' p0 p1 p2 => ?_⟩
      · by_cases e2 : p = qe k
        · rw [e2, new, up1_s]; omega
        · rw [old p (by omega) (by omega), up1_n _ _ (hi k p k0 k4 (by omega) (by omega))]
          have := a1 p p0 (by omega)
          omega
      · by_cases e2 : p' = qe k
        · rw [e2, new, up1_s, old p (by omega) (by omega), up1_n _ _ (hi k p k0 k4 (by omega) (by omega))]
          exact a1 p p0 (by omega)
        · rw [old p (by omega) (by omega), old p' (by omega) (by omega), up1_n _ _ (hi k p k0 k4 (by omega) (by omega)), up1_n _ _ (hi k p' k0 k4 (by omega) (by omega))]
          exact a2 p p' p0 p1 (by omega)
      · rw [old p (by omega) (by omega)]
        have := a3 p p0 p1
        omega
      · rw [old p (by omega) (by omega), old p' (by omega) (by omega)]
        exact a4 p p' p0 p1 p2
    · rw [up1_n _ _ e]
      have old : ∀ p, rw1 rw l (qe l) i k p = rw k p := fun p => by unfold rw1; rw [if_neg (fun q => e q.1)]
      simp only [old]
      refine ⟨fun p p0 p1 => ?_, fun p p' p0 p1 p2 => ?_, fun p p0 p1 => ?_, a4⟩
      · rw [up1_n _ _ (hi k p k0 k4 (by omega) (by omega))]
        have := a1 p p0 p1
        omega
      · rw [up1_n _ _ (hi k p k0 k4 (by omega) (by omega)), up1_n _ _ (hi k p' k0 k4 (by omega) (by omega))]
        exact a2 p p' p0 p1 p2
      · have := a3 p p0 p1
        omega
theorem Rt_rw {ws qs qe : Int → Int} {rw rw' : Int → Int → Int} {q l : Int → Int} {s B : Int} (h : Rt ws qs qe rw q l s B) (hr : ∀ k p, 0 ≤ k → k < 4 → rw' k p = rw k p) : Rt ws qs qe rw' q l s B := by
  obtain ⟨a, b, c⟩ := h
  refine ⟨a, b, fun k k0 k4 => ?_⟩
  simp only [hr k _ k0 k4]
  exact c k k0 k4
theorem RM_enq {S M : Mem} {B i l : Int} (hR : RM S M B) (l0 : 0 ≤ l) (l4 : l < 4) (hws : ∀ k, 0 ≤ k → k < 4 → 0 ≤ S 15 k ∧ S 15 k ≤ S 16 k ∧ S 16 k ≤ S 17 k) (hi : ∀ k p, 0 ≤ k → k < 4 → 0 ≤ p → p < S 17 k → qr S k p ≠ i) (hs4 : S 34 i ≠ 4) : RM (aEnq S i l) (mQueue M i l) (B + 1) := by
  have eo : ∀ r : Nat, r ≠ 17 → r ≠ 34 → r ≠ 35 → r ≠ 41 → (r < 11 ∨ 15 ≤ r) → aEnq S i l r = S r := fun r q1 q2 q3 q4 q5 => aEnq_o S i l q1 q2 q3 q4 (by omega)
  have e41 : aEnq S i l 41 4 = S 41 4 := by rw [aEnq_41 _ _ l4, turn_val, if_neg (Ne.symm hs4), if_neg (by decide)]; omega
  obtain ⟨⟨e48, e49, e50, e51, e52, e53, e54, e55, e56, e57, e58, e59, e60, e61, e62, e63, e64, e65, e66, e69, e70⟩, ⟨t1, t2, t3, t4, t5, t6, t7, t8, t9⟩, hT⟩ := hR
  refine ⟨?_, ?_, ?_⟩
  · unfold Rr mQueue
    simp only [mw_rs, mw_rn, eo, aEnq_34 _ _ l4, aEnq_35 _ _ l4, ne_eq, not_false_eq_true, Nat.reduceEqDiff, Nat.reduceLT, Nat.reduceLeDiff, true_or, or_true, forall_const]
    simp only [e48, e49, e50, e51, e52, e53, e54, e55, e56, e57, e58, e59, e60, e61, e62, e63, e64, e65, e66, e69, e70, and_self]
  · unfold Rs mQueue
    simp only [mw_rs, mw_rn, eo, e41, ne_eq, not_false_eq_true, Nat.reduceEqDiff, Nat.reduceLT, Nat.reduceLeDiff, true_or, or_true, forall_const, up1_e]
    simp [t1, t2, t3, t4, t5, t6, t7, t8, t9]
  · unfold mQueue
    simp only [mw_rs, mw_rn, eo, aEnq_17 _ _ l4, ne_eq, not_false_eq_true, Nat.reduceEqDiff, Nat.reduceLT, Nat.reduceLeDiff, true_or, or_true, forall_const, up1_s]
    exact Rt_rw (Rt_enq hT l0 l4 hws hi) (fun k p k0 k4 => aEnq_qr S i l0 l4 k p k0 k4)
end
section
/-! The reference beside the small steps: leaving, arriving, coming out. -/
def mLeave1 (M : Mem) (i l : Int) : Mem := mw (mw (mw (mw (mw (mw M 61 i 2) 64 i (M 47 0)) 65 i (M 47 0 + M 49 l)) 68 i (M 47 28)) 47 28 (M 47 28 + 1)) 51 l (M 51 l + 1)
theorem Rt_leave {ws qs qe : Int → Int} {rw : Int → Int → Int} {q lv : Int → Int} {s B l : Int} (h : Rt ws qs qe rw q lv s B) (l0 : 0 ≤ l) (l4 : l < 4) (hw : 0 ≤ ws l) (hq : qs l < qe l) (hi : ∀ k p, 0 ≤ k → k < 4 → ws k ≤ p → p < qe k → (k ≠ l ∨ p ≠ qs l) → rw k p ≠ rw l (qs l)) (hqe : ∀ k, 0 ≤ k → k < 4 → qs k ≤ qe k) : Rt ws (up1 qs l (qs l + 1)) qe rw q (up1 lv (rw l (qs l)) s) (s + 1) (B + 1) := by
  obtain ⟨h1, h2, h3⟩ := h
  refine ⟨⟨by omega, by omega⟩, fun j => ?_, fun k k0 k4 => ?_⟩
  · have := h2 j
    rw [up1_e]
    split <;> omega
  · obtain ⟨a1, a2, a3, a4⟩ := h3 k k0 k4
    have hk := hqe k k0 k4
    by_cases e : k = l
    · subst e
      rw [up1_s]
      refine ⟨fun p p0 p1 => ?_, fun p p' p0 p1 p2 => a2 p p' (by omega) p1 p2, fun p p0 p1 => ?_, fun p p' p0 p1 p2 => ?_⟩
      · have := a1 p (by omega) p1
        omega
      · by_cases e2 : p = qs k
        · rw [e2, up1_s]; omega
        · rw [up1_n _ _ (hi k p k0 k4 p0 (by omega) (Or.inr e2))]
          have := a3 p p0 (by omega)
          omega
      · have e2 : p ≠ qs k := by omega
        by_cases e3 : p' = qs k
        · rw [e3, up1_s, up1_n _ _ (hi k p k0 k4 p0 (by omega) (Or.inr e2))]
          exact a3 p p0 (by omega)
        · rw [up1_n _ _ (hi k p k0 k4 p0 (by omega) (Or.inr e2)), up1_n _ _ (hi k p' k0 k4 (by omega) (by omega) (Or.inr e3))]
          exact a4 p p' p0 p1 (by omega)
    · rw [up1_n _ _ e]
      refine ⟨fun p p0 p1 => ?_, a2, fun p p0 p1 => ?_, fun p p' p0 p1 p2 => ?_⟩
      · have := a1 p p0 p1
        omega
      · rw [up1_n _ _ (hi k p k0 k4 p0 (by omega) (Or.inl e))]
        have := a3 p p0 p1
        omega
      · rw [up1_n _ _ (hi k p k0 k4 p0 (by omega) (Or.inl e)), up1_n _ _ (hi k p' k0 k4 (by omega) (by omega) (Or.inl e))]
        exact a4 p p' p0 p1 p2
theorem rows_apart {S : Mem} {lo : Int → Int} {x : Int} (h : AI S lo x) {k l p p' : Int} (k0 : 0 ≤ k) (k4 : k < 4) (l0 : 0 ≤ l) (l4 : l < 4) (p0 : 0 ≤ p) (p1 : p < S 17 k) (q0 : 0 ≤ p') (q1 : p' < S 17 l) (hne : k ≠ l ∨ p ≠ p') : qr S k p ≠ qr S l p' := by
  have hq := h.2.2.2.2.2.2.2.2.2.2.2.1
  obtain ⟨-, a4, a5, -, -⟩ := hq k k0 k4
  obtain ⟨-, b4, -, -, -⟩ := hq l l0 l4
  by_cases e : k = l
  · subst e
    have hpp : p ≠ p' := by omega
    by_cases hlt : p < p'
    · exact a5 p p' p0 hlt q1
    · exact (a5 p' p q0 (by omega) p1).symm
  · intro e2
    have h1 := (a4 p p0 p1).1.2.2
    have h2 := (b4 p' q0 q1).1.2.2
    rw [e2, h2] at h1
    exact e h1.symm
theorem AI_ord {S : Mem} {lo : Int → Int} {x : Int} (h : AI S lo x) : ∀ k, 0 ≤ k → k < 4 → 0 ≤ S 15 k ∧ S 15 k ≤ S 16 k ∧ S 16 k ≤ S 17 k := fun k k0 k4 => (h.2.2.2.2.2.2.2.2.2.2.2.1 k k0 k4).1
theorem RM_leave1 {S M : Mem} {lo : Int → Int} {x B l : Int} (h : AI S lo x) (hR : RM S M B) (hu : S 9 l = 1) (hq : S 16 l < S 17 l) : RM (aLeave1 S l) (mLeave1 M (qr S l (S 16 l)) l) (B + 1) := by
  obtain ⟨l0, lL, l4⟩ := AI_up h hu
  have hord := AI_ord h
  have hs : S 34 (qr S l (S 16 l)) = 1 := ((h.2.2.2.2.2.2.2.2.2.2.2.1 l l0 l4).2.1 (S 16 l) (by have := hord l l0 l4; omega) hq).2.2.2 (Int.le_refl _)
  have eo : ∀ r : Nat, r ≠ 37 → r ≠ 38 → r ≠ 34 → r ≠ 41 → r ≠ 16 → r ≠ 18 → aLeave1 S l r = S r := fun r a b c d e f => aLeave1_o S l a b c d e f
  have e34 : aLeave1 S l 34 = up1 (S 34) (qr S l (S 16 l)) 2 := by
    unfold aLeave1
    rw [mw_rn _ _ _ (by decide), mw_rn _ _ _ (by decide), aTurn_34, mw_rn _ _ _ (by decide), mw_rn _ _ _ (by decide)]
  have e38 : aLeave1 S l 38 = up1 (S 38) (qr S l (S 16 l)) (S 5 0 + S 8 l) := by
    unfold aLeave1
    rw [mw_rn _ _ _ (by decide), mw_rn _ _ _ (by decide), aTurn_o _ _ _ (by decide) (by decide), mw_rs, mw_rn _ _ _ (by decide)]
  have e37 : aLeave1 S l 37 = up1 (S 37) (qr S l (S 16 l)) (S 5 0) := by
    unfold aLeave1
    rw [mw_rn _ _ _ (by decide), mw_rn _ _ _ (by decide), aTurn_o _ _ _ (by decide) (by decide), mw_rn _ _ _ (by decide), mw_rs]
  have e41 : aLeave1 S l 41 4 = S 41 4 := by
    unfold aLeave1
    rw [mw_rn _ _ _ (by decide), mw_rn _ _ _ (by decide), aTurn_41]
    simp only [mw_rn _ _ _ (show (34 : Nat) ≠ 37 by decide), mw_rn _ _ _ (show (34 : Nat) ≠ 38 by decide), mw_rn _ _ _ (show (41 : Nat) ≠ 37 by decide), mw_rn _ _ _ (show (41 : Nat) ≠ 38 by decide)]
    rw [turn_val, hs, if_neg (by decide), if_neg (by decide)]
    omega
  have eq : ∀ l' p, 0 ≤ l' → l' < 4 → qr (aLeave1 S l) l' p = qr S l' p := fun l' p a b => by
    show aLeave1 S l (11 + l'.toNat) p = _
    rw [eo _ (by omega) (by omega) (by omega) (by omega) (by omega) (by omega)]
  obtain ⟨⟨e48, e49, e50, e51, e52, e53, e54, e55, e56, e57, e58, e59, e60, e61, e62, e63, e64, e65, e66, e69, e70⟩, ⟨t1, t2, t3, t4, t5, t6, t7, t8, t9⟩, hT⟩ := hR
  refine ⟨?_, ?_, ?_⟩
  · unfold Rr mLeave1
    simp only [mw_rs, mw_rn, eo, e34, e37, e38, aLeave1_18, ne_eq, not_false_eq_true, Nat.reduceEqDiff, Nat.reduceLT, Nat.reduceLeDiff, true_or, or_true, forall_const]
    simp only [e48, e49, e50, e51, e52, e53, e54, e55, e56, e57, e58, e59, e60, e61, e62, e63, e64, e65, e66, e69, e70, t1, and_self]
  · unfold Rs mLeave1
    simp only [mw_rs, mw_rn, eo, e41, ne_eq, not_false_eq_true, Nat.reduceEqDiff, Nat.reduceLT, Nat.reduceLeDiff, true_or, or_true, forall_const, up1_e]
    simp [t1, t2, t3, t4, t5, t6, t7, t8, t9]
  · unfold mLeave1
    simp only [mw_rs, mw_rn, eo, aLeave1_16, ne_eq, not_false_eq_true, Nat.reduceEqDiff, Nat.reduceLT, Nat.reduceLeDiff, true_or, or_true, forall_const, up1_s]
    exact Rt_rw (Rt_leave hT l0 l4 (hord l l0 l4).1 hq (fun k p k0 k4 p0 p1 hne => rows_apart h k0 k4 l0 l4 (by have := hord k k0 k4; omega) p1 (by have := hord l l0 l4; omega) hq hne) (fun k k0 k4 => (hord k k0 k4).2.2)) eq
def mOut (M : Mem) (i : Int) : Mem := mw (mw (mw (mw M 61 i 4) 66 i (M 47 0)) 69 (M 47 29) i) 47 29 (M 47 29 + 1)
theorem Rt_ws {ws qs qe : Int → Int} {rw : Int → Int → Int} {q lv : Int → Int} {s B l v : Int} (h : Rt ws qs qe rw q lv s B) (hv : ws l ≤ v) : Rt (up1 ws l v) qs qe rw q lv s B := by
  obtain ⟨h1, h2, h3⟩ := h
  refine ⟨h1, h2, fun k k0 k4 => ?_⟩
  obtain ⟨a1, a2, a3, a4⟩ := h3 k k0 k4
  have hw : ws k ≤ up1 ws l v k := by rw [up1_e]; split; rename_i e; rw [e]; exact hv; exact Int.le_refl _
  exact ⟨a1, a2, fun p p0 p1 => a3 p (by omega) p1, fun p p' p0 p1 p2 => a4 p p' (by omega) p1 p2⟩
theorem RM_out {S M : Mem} {lo : Int → Int} {x B i : Int} (h : AI S lo x) (hR : RM S M B) (hs : S 34 i ≠ 4) : RM (aLetOut S i) (mOut M i) B := by
  have eo : ∀ r : Nat, r ≠ 27 → r ≠ 29 → r ≠ 30 → r ≠ 39 → r ≠ 34 → r ≠ 41 → r ≠ 40 → aLetOut S i r = S r := fun r a b c d e f g => aLetOut_o S i a b c d e f g
  have e41 : aLetOut S i 41 4 = S 41 4 + 1 := by rw [aLetOut_41, ins4 hs]
  have eq : ∀ l' p, 0 ≤ l' → l' < 4 → qr (aLetOut S i) l' p = qr S l' p := fun l' p a b => by
    show aLetOut S i (11 + l'.toNat) p = _
    rw [eo _ (by omega) (by omega) (by omega) (by omega) (by omega) (by omega) (by omega)]
  obtain ⟨⟨e48, e49, e50, e51, e52, e53, e54, e55, e56, e57, e58, e59, e60, e61, e62, e63, e64, e65, e66, e69, e70⟩, ⟨t1, t2, t3, t4, t5, t6, t7, t8, t9⟩, hT⟩ := hR
  refine ⟨?_, ?_, ?_⟩
  · unfold Rr mOut
    simp only [mw_rs, mw_rn, eo, aLetOut_34, aLetOut_39, aLetOut_40, ne_eq, not_false_eq_true, Nat.reduceEqDiff, Nat.reduceLT, Nat.reduceLeDiff, true_or, or_true, forall_const]
    simp only [e48, e49, e50, e51, e52, e53, e54, e55, e56, e57, e58, e59, e60, e61, e62, e63, e64, e65, e66, e69, e70, t1, t8, and_self]
  · unfold Rs mOut
    simp only [mw_rs, mw_rn, eo, e41, ne_eq, not_false_eq_true, Nat.reduceEqDiff, Nat.reduceLT, Nat.reduceLeDiff, true_or, or_true, forall_const, up1_e]
    simp [t1, t2, t3, t4, t5, t6, t7, t8, t9]
  · unfold mOut
    simp only [mw_rs, mw_rn, eo, ne_eq, not_false_eq_true, Nat.reduceEqDiff, Nat.reduceLT, Nat.reduceLeDiff, true_or, or_true, forall_const, up1_e]
    exact Rt_rw hT eq
theorem RM_ws {S M : Mem} {B l v : Int} (hR : RM S M B) (hv : S 15 l ≤ v) : RM (mw S 15 l v) M B := by
  obtain ⟨h1, h2, h3⟩ := hR
  refine ⟨?_, ?_, ?_⟩
  · unfold Rr at *
    simp only [mw_rn, ne_eq, not_false_eq_true, Nat.reduceEqDiff, Nat.reduceLT, Nat.reduceLeDiff, true_or, or_true, forall_const]
    exact h1
  · unfold Rs at *
    simp only [mw_rn, ne_eq, not_false_eq_true, Nat.reduceEqDiff, Nat.reduceLT, Nat.reduceLeDiff, true_or, or_true, forall_const]
    exact h2
  · simp only [mw_rs, mw_rn, ne_eq, not_false_eq_true, Nat.reduceEqDiff, Nat.reduceLT, Nat.reduceLeDiff, true_or, or_true, forall_const]
    exact Rt_rw (Rt_ws h3 hv) (fun k p k0 k4 => mwq (by omega) _ _ k0 k4)
theorem RM_arrOut {S M : Mem} {lo : Int → Int} {x B l : Int} (h : AI S lo x) (hR : RM S M B) (hn : S 5 1 = 0) (hs : S 34 (qr S l (S 15 l)) ≠ 4) : RM (aArr1 S l) (mOut M (qr S l (S 15 l))) B := by
  unfold aArr1
  rw [if_pos hn]
  have e15 : aLetOut S (qr S l (S 15 l)) 15 = S 15 := aLetOut_o _ _ (by decide) (by decide) (by decide) (by decide) (by decide) (by decide) (by decide)
  exact RM_ws (RM_out h hR hs) (by rw [e15]; omega)
theorem RM_arrWait {S M : Mem} {B l : Int} (hR : RM S M B) (hn : S 5 1 ≠ 0) (hs : S 34 (qr S l (S 15 l)) ≠ 4) : RM (aArr1 S l) (mw M 61 (qr S l (S 15 l)) 3) B := by
  unfold aArr1
  rw [if_neg hn]
  have e15 : aTurn S (qr S l (S 15 l)) 3 15 = S 15 := aTurn_o _ _ _ (by decide) (by decide)
  refine RM_ws ?_ (by rw [e15]; omega)
  have eo : ∀ r : Nat, r ≠ 34 → r ≠ 41 → aTurn S (qr S l (S 15 l)) 3 r = S r := fun r a b => aTurn_o _ _ _ a b
  have e41 : aTurn S (qr S l (S 15 l)) 3 41 4 = S 41 4 := by rw [aTurn_41, turn_val, if_neg (Ne.symm hs), if_neg (by decide)]; omega
  obtain ⟨⟨e48, e49, e50, e51, e52, e53, e54, e55, e56, e57, e58, e59, e60, e61, e62, e63, e64, e65, e66, e69, e70⟩, ⟨t1, t2, t3, t4, t5, t6, t7, t8, t9⟩, hT⟩ := hR
  refine ⟨?_, ?_, ?_⟩
  · unfold Rr
    simp only [mw_rs, mw_rn, eo, aTurn_34, ne_eq, not_false_eq_true, Nat.reduceEqDiff, Nat.reduceLT, Nat.reduceLeDiff, true_or, or_true, forall_const]
    simp only [e48, e49, e50, e51, e52, e53, e54, e55, e56, e57, e58, e59, e60, e61, e62, e63, e64, e65, e66, e69, e70, and_self]
  · unfold Rs
    simp only [mw_rn, eo, e41, ne_eq, not_false_eq_true, Nat.reduceEqDiff, Nat.reduceLT, Nat.reduceLeDiff, true_or, or_true, forall_const]
    exact ⟨t1, t2, t3, t4, t5, t6, t7, t8, t9⟩
  · simp only [mw_rn, eo, ne_eq, not_false_eq_true, Nat.reduceEqDiff, Nat.reduceLT, Nat.reduceLeDiff, true_or, or_true, forall_const]
    exact Rt_rw hT (fun k p k0 k4 => aTurnq _ _ k0 k4)
/-! who is first -/
theorem first_q {S M : Mem} {lo : Int → Int} {x B l : Int} (h : AI S lo x) (hR : RM S M B) (l0 : 0 ≤ l) (l4 : l < 4) : ∀ i, 0 ≤ i → i < S 4 0 → S 34 i = 1 → S 35 i = l → S 16 l < S 17 l ∧ (i = qr S l (S 16 l) ∨ M 67 (qr S l (S 16 l)) < M 67 i) := by
  intro i i0 i1 i2 i3
  obtain ⟨q1, q4, q5, q6, q7⟩ := h.2.2.2.2.2.2.2.2.2.2.2.1 l l0 l4
  rcases h.2.2.2.2.2.2.2.2.2.2.2.2.1 i i0 i1 with q | ⟨a1, a2, a3, p, a4, a5, a6⟩
  · omega
  · rw [i3] at a5 a6
    have hp := q4 p a4 a5
    rw [show (qr S) l p = i from a6] at hp
    have hqp : S 16 l ≤ p := by
      by_cases c1 : p < S 15 l
      · have := hp.2.1 c1; omega
      · by_cases c2 : p < S 16 l
        · have := (hp.2.2.1 (by omega) c2).1; omega
        · omega
    refine ⟨by omega, ?_⟩
    by_cases e : p = S 16 l
    · left; rw [← e]; exact a6.symm
    · right
      have := (hR.2.2.2.2 l l0 l4).2.1 (S 16 l) p (Int.le_refl _) (by omega) a5
      rw [show qr S l p = i from a6] at this
      exact this
theorem first_a {S M : Mem} {lo : Int → Int} {x B l : Int} (h : AI S lo x) (hR : RM S M B) (l0 : 0 ≤ l) (l4 : l < 4) (hlo : lo l = S 5 0 - 1) : ∀ i, 0 ≤ i → i < S 4 0 → S 34 i = 2 → S 35 i = l → S 38 i = S 5 0 → (S 15 l < S 16 l ∧ S 38 (qr S l (S 15 l)) = S 5 0) ∧ (i = qr S l (S 15 l) ∨ M 68 (qr S l (S 15 l)) < M 68 i) := by
  intro i i0 i1 i2 i3 i4
  obtain ⟨q1, q4, q5, q6, q7⟩ := h.2.2.2.2.2.2.2.2.2.2.2.1 l l0 l4
  rcases h.2.2.2.2.2.2.2.2.2.2.2.2.1 i i0 i1 with q | ⟨a1, a2, a3, p, a4, a5, a6⟩
  · omega
  · rw [i3] at a5 a6
    have hp := q4 p a4 a5
    rw [show (qr S) l p = i from a6] at hp
    have hwp : S 15 l ≤ p ∧ p < S 16 l := by
      by_cases c1 : p < S 15 l
      · have := hp.2.1 c1; omega
      · by_cases c2 : p < S 16 l
        · exact ⟨by omega, c2⟩
        · have := hp.2.2.2 (by omega); omega
    have hm := q6 (S 15 l) p (Int.le_refl _) hwp.1 hwp.2
    rw [show (qr S) l p = i from a6] at hm
    have hg := ((q4 (S 15 l) (by omega) (by omega)).2.2.1 (Int.le_refl _) (by omega)).2.1
    refine ⟨⟨by omega, by omega⟩, ?_⟩
    by_cases e : p = S 15 l
    · left; rw [← e]; exact a6.symm
    · right
      have := (hR.2.2.2.2 l l0 l4).2.2.2 (S 15 l) p (Int.le_refl _) (by omega) hwp.2
      rw [show qr S l p = i from a6] at this
      exact this
end
section
/-! The reference's small methods. -/
theorem ok_in {d : Nat} {M : Mem} {x lo hi : Int} (hx : rng x) (hl : rng lo) (hh : rng hi) : gOk mX7_in d [vI x, vI lo, vI hi] M (yn (lo ≤ x ∧ x ≤ hi) M) := by
  refine gOk_of mX7_in_ok (by simp) (Nat.le_of_ble_eq_true rfl) ?_
  repeat (refine gV_s rfl (by first | exact trivial | omega) ?_)
  refine gV_i rfl ⟨hx, hl⟩ (fun h1 => ?_) (fun h1 => ?_)
  · repeat (refine gV_s rfl (by first | exact trivial | omega) ?_)
    exact gV_ret rfl (Or.inl rfl) ⟨rfl, Or.inr ⟨by omega, rfl⟩⟩
  · repeat (refine gV_s rfl (by first | exact trivial | omega) ?_)
    refine gV_i rfl ⟨hx, hh⟩ (fun h2 => ?_) (fun h2 => ?_)
    · repeat (refine gV_s rfl (by first | exact trivial | omega) ?_)
      exact gV_ret rfl (Or.inl rfl) ⟨rfl, Or.inr ⟨by omega, rfl⟩⟩
    · repeat (refine gV_s rfl (by first | exact trivial | omega) ?_)
      exact gV_ret rfl (Or.inr rfl) ⟨rfl, Or.inl ⟨by omega, rfl⟩⟩
theorem ok_isLink {d : Nat} {M : Mem} {x : Int} (h : MR M) (hx : rng x) : gOk mX7_isLink (d + 1) [vR 47, vI x] M (yn (0 ≤ x ∧ x < M 47 1) M) := by
  have h1 := h.2.1
  refine gOk_of mX7_isLink_ok (by simp) (Nat.le_of_ble_eq_true rfl) ?_
  repeat (refine gV_s rfl (by first | exact trivial | omega) ?_)
  refine gV_cS (ok_in (d := d) (M := M) hx (by unfold rng; omega) (by unfold rng; omega)) mX7_in_ok sX7_X7_in rfl rfl rfl rfl ?_
  rintro r M' ⟨rfl, ⟨h2, rfl⟩ | ⟨h2, rfl⟩⟩
  · exact gV_ret rfl (Or.inr rfl) ⟨rfl, Or.inl ⟨by omega, rfl⟩⟩
  · exact gV_ret rfl (Or.inl rfl) ⟨rfl, Or.inr ⟨by omega, rfl⟩⟩
theorem ok_isFlow {d : Nat} {M : Mem} {x : Int} (h : MR M) (hx : rng x) : gOk mX7_isFlow (d + 1) [vR 47, vI x] M (yn (0 ≤ x ∧ x < M 47 10) M) := by
  have h1 := h.2.2.1
  refine gOk_of mX7_isFlow_ok (by simp) (Nat.le_of_ble_eq_true rfl) ?_
  repeat (refine gV_s rfl (by first | exact trivial | omega) ?_)
  refine gV_cS (ok_in (d := d) (M := M) hx (by unfold rng; omega) (by unfold rng; omega)) mX7_in_ok sX7_X7_in rfl rfl rfl rfl ?_
  rintro r M' ⟨rfl, ⟨h2, rfl⟩ | ⟨h2, rfl⟩⟩
  · exact gV_ret rfl (Or.inr rfl) ⟨rfl, Or.inl ⟨by omega, rfl⟩⟩
  · exact gV_ret rfl (Or.inl rfl) ⟨rfl, Or.inr ⟨by omega, rfl⟩⟩
theorem ok_isBucket {d : Nat} {M : Mem} {x : Int} (hx : rng x) : gOk mX7_isBucket (d + 1) [vI x] M (yn (0 ≤ x ∧ x < 8) M) := by
  refine gOk_of mX7_isBucket_ok (by simp) (Nat.le_of_ble_eq_true rfl) ?_
  repeat (refine gV_s rfl (by first | exact trivial | omega) ?_)
  refine gV_cS (ok_in (d := d) (M := M) hx (by unfold rng; omega) (by unfold rng; omega)) mX7_in_ok sX7_X7_in rfl rfl rfl rfl ?_
  rintro r M' ⟨rfl, ⟨h2, rfl⟩ | ⟨h2, rfl⟩⟩
  · exact gV_ret rfl (Or.inr rfl) ⟨rfl, Or.inl ⟨by omega, rfl⟩⟩
  · exact gV_ret rfl (Or.inl rfl) ⟨rfl, Or.inr ⟨by omega, rfl⟩⟩
theorem ok_queue {d : Nat} {M : Mem} {i l : Int} {P : PV → Mem → Prop} (i0 : 0 ≤ i) (i4 : i < 400) (hP : P none (mQueue M i l)) : gOk mX7_queue d [vR 47, vI i, vI l] M P := by
  refine gOk_of mX7_queue_ok (by simp) (Nat.le_of_ble_eq_true rfl) ?_
  repeat (refine gV_s rfl (by first | exact trivial | omega) ?_)
  exact gV_retv rfl trivial hP
def bkM (M : Mem) (f : Int) : Int := if M 57 f < 0 then (f * M 47 13 + M 47 14) % 8 else M 57 f
theorem ok_bucketNow {d : Nat} {M : Mem} {f : Int} {P : PV → Mem → Prop} (h : MR M) (h0 : 0 ≤ f) (h1 : f < 16) (hP : P (vI (bkM M f)) M) : gOk mX7_bucketNow d [vR 47, vI f] M P := by
  have ha := h.2.2.2.2.2.1
  have hc := h.2.2.2.2.2.2.1
  have hp := (h.2.2.2.2.2.2.2.2.2.2.2.2.1 f).2
  refine gOk_of mX7_bucketNow_ok (by simp) (Nat.le_of_ble_eq_true rfl) ?_
  have hb := fa_bd h0 h1 ha.1 ha.2
  unfold bkM at hP
  repeat (refine gV_s rfl (by first | exact trivial | omega) ?_)
  refine gV_i rfl (by unfold rng; omega) (fun h2 => ?_) (fun h2 => ?_)
  · repeat (refine gV_s rfl (by first | exact trivial | omega) ?_)
    rw [if_pos h2] at hP
    exact gV_ret rfl trivial hP
  · repeat (refine gV_s rfl (by first | exact trivial | omega) ?_)
    rw [if_neg h2] at hP
    exact gV_ret rfl trivial hP
theorem bkM_eq {S M : Mem} {lo : Int → Int} {x B f : Int} (h : AI S lo x) (hR : RM S M B) : bkM M f = bkO S f := by
  have hf := h.2.2.2.2.2.1 f
  unfold bkM bkO
  rw [hR.1.2.2.2.2.2.2.2.2.2.1, hR.2.1.2.2.2.1, hR.2.1.2.2.2.2.1]
  by_cases e : S 25 f = -1
  · rw [if_pos (by omega), if_pos e]
  · rw [if_neg (by omega), if_neg e]
theorem open_loop {d : Nat} {M : Mem} {f : Int} (h : MR M) (hf : rng f) : ∀ (n k : Nat) (z : Int), (k : Int) + n = M 47 16 → ((z = 1 ∧ ∃ i, 0 ≤ i ∧ i < (k : Int) ∧ M 61 i < 4 ∧ (f < 0 ∨ M 58 i = f)) ∨ (z = 0 ∧ ¬ ∃ i, 0 ≤ i ∧ i < (k : Int) ∧ M 61 i < 4 ∧ (f < 0 ∨ M 58 i = f))) →
    gV mX7_hasOpen d (yn (∃ i, 0 ≤ i ∧ i < M 47 16 ∧ M 61 i < 4 ∧ (f < 0 ∨ M 58 i = f)) M) 9 [vR 47, vI f, vI z, vI k] [vI (M 47 16), vI k] M
  | 0, k, z, hk, hz => by
    have hn := h.1
    refine gV_it rfl (by unfold rng; omega) (by omega) ?_
    repeat (refine gV_s rfl (by first | exact trivial | omega) ?_)
    rw [show (k : Int) = M 47 16 by omega] at hz
    rcases hz with ⟨rfl, q⟩ | ⟨rfl, q⟩
    · exact gV_ret rfl (Or.inr rfl) ⟨rfl, Or.inl ⟨q, rfl⟩⟩
    · exact gV_ret rfl (Or.inl rfl) ⟨rfl, Or.inr ⟨q, rfl⟩⟩
  | n + 1, k, z, hk, hz => by
    have hn := h.1
    have hi := h.2.2.2.2.2.2.2.2.2.1 k
    have yes : (∃ i, 0 ≤ i ∧ i < ((k + 1 : Nat) : Int) ∧ M 61 i < 4 ∧ (f < 0 ∨ M 58 i = f)) → gV mX7_hasOpen d (yn (∃ i, 0 ≤ i ∧ i < M 47 16 ∧ M 61 i < 4 ∧ (f < 0 ∨ M 58 i = f)) M) 45 [vR 47, vI f, vI z, vI k] [vI 1] M := fun q => by
      have ih := open_loop (d := d) h hf n (k + 1) 1 (by push_cast; omega) (Or.inl ⟨rfl, q⟩)
      repeat (refine gV_s rfl (by first | exact trivial | omega) ?_)
      exact ih
    have no : (¬ ∃ i, 0 ≤ i ∧ i < ((k + 1 : Nat) : Int) ∧ M 61 i < 4 ∧ (f < 0 ∨ M 58 i = f)) → gV mX7_hasOpen d (yn (∃ i, 0 ≤ i ∧ i < M 47 16 ∧ M 61 i < 4 ∧ (f < 0 ∨ M 58 i = f)) M) 45 [vR 47, vI f, vI z, vI k] [vI 0] M := fun q => by
      have ih := open_loop (d := d) h hf n (k + 1) 0 (by push_cast; omega) (Or.inr ⟨rfl, q⟩)
      repeat (refine gV_s rfl (by first | exact trivial | omega) ?_)
      exact ih
    have none : z = 0 → ¬ (M 61 k < 4 ∧ (f < 0 ∨ M 58 k = f)) → ¬ ∃ i, 0 ≤ i ∧ i < ((k + 1 : Nat) : Int) ∧ M 61 i < 4 ∧ (f < 0 ∨ M 58 i = f) := by
      rintro hz0 hne ⟨i, i0, i1, i2⟩
      rcases hz with q | ⟨_, q⟩
      · omega
      · by_cases e : i = k
        · subst e; exact hne i2
        · exact q ⟨i, i0, by push_cast at i1; omega, i2⟩
    unfold rng at hf
    have hz1 : z = 0 ∨ z = 1 := by rcases hz with q | q; exact Or.inr q.1; exact Or.inl q.1
    refine gV_in rfl (by clear hz; unfold rng; omega) (by clear hz; omega) ?_
    repeat (refine gV_s rfl (by first | exact trivial | omega) ?_)
    refine gV_i rfl (by clear hz; unfold rng; omega) (fun h1 => ?_) (fun h1 => ?_)
    · repeat (refine gV_s rfl (by first | exact trivial | omega) ?_)
      refine gV_i rfl (by clear hz; unfold rng; omega) (fun h2 => ?_) (fun h2 => ?_)
      · refine gV_s rfl trivial ?_
        exact no (none h1 (by omega))
      · repeat (refine gV_s rfl (by first | exact trivial | omega) ?_)
        refine gV_i rfl (by unfold rng; omega) (fun h3 => ?_) (fun h3 => ?_)
        · refine gV_s rfl trivial (gV_s rfl trivial ?_)
          exact yes ⟨k, by omega, by push_cast; omega, by omega, Or.inl h3⟩
        · repeat (refine gV_s rfl (by first | exact trivial | omega) ?_)
          refine gV_i rfl (by unfold rng; omega) (fun h4 => ?_) (fun h4 => ?_)
          · refine gV_s rfl trivial (gV_s rfl trivial ?_)
            exact yes ⟨k, by omega, by push_cast; omega, by omega, Or.inr h4⟩
          · refine gV_s rfl trivial ?_
            exact no (none h1 (by omega))
    · refine gV_s rfl trivial (gV_s rfl trivial ?_)
      rcases hz with ⟨_, i, i0, i1, i2⟩ | q
      · exact yes ⟨i, i0, by push_cast; omega, i2⟩
      · omega
theorem ok_hasOpen {d : Nat} {M : Mem} {f : Int} (h : MR M) (hf : rng f) : gOk mX7_hasOpen d [vR 47, vI f] M (yn (∃ i, 0 ≤ i ∧ i < M 47 16 ∧ M 61 i < 4 ∧ (f < 0 ∨ M 58 i = f)) M) := by
  have hn := h.1
  refine gOk_of mX7_hasOpen_ok (by simp) (Nat.le_of_ble_eq_true rfl) ?_
  repeat (refine gV_s rfl (by first | exact trivial | omega) ?_)
  exact open_loop h hf (M 47 16).toNat 0 0 (by omega) (Or.inr ⟨rfl, fun ⟨i, i0, i1, _⟩ => by omega⟩)
def cHd (M : Mem) (b : Int) : Int → Bool := fun j => decide (M 61 j = 0 ∧ M 60 j = b)
theorem held_loop {d : Nat} {M : Mem} {b : Int} {P : PV → Mem → Prop} (h : MR M) (hb : rng b) (hP : P (vI (ct (cHd M b) (M 47 16).toNat)) M) : ∀ (n k : Nat), (k : Int) + n = M 47 16 → gV mX7_held d P 9 [vR 47, vI b, vI (ct (cHd M b) k), vI k] [vI (M 47 16), vI k] M
  | 0, k, hk => by
    have hn := h.1
    have e : k = (M 47 16).toNat := by omega
    refine gV_it rfl (by unfold rng; omega) (by omega) ?_
    repeat (refine gV_s rfl (by first | exact trivial | omega) ?_)
    rw [e]
    exact gV_ret rfl trivial hP
  | n + 1, k, hk => by
    have hn := h.1
    have hi := h.2.2.2.2.2.2.2.2.2.1 k
    have ih := held_loop (d := d) h hb hP n (k + 1) (by push_cast; omega)
    rw [ct_s _ k] at ih
    unfold rng at hb
    refine gV_in rfl (by unfold rng; omega) (by omega) ?_
    repeat (refine gV_s rfl (by first | exact trivial | omega) ?_)
    refine gV_i rfl (by unfold rng; omega) (fun h1 => ?_) (fun h1 => ?_)
    · repeat (refine gV_s rfl (by first | exact trivial | omega) ?_)
      refine gV_i rfl (by unfold rng; omega) (fun h2 => ?_) (fun h2 => ?_)
      · rw [if_pos (by unfold cHd; simp [h1, h2])] at ih
        repeat (refine gV_s rfl (by first | exact trivial | omega) ?_)
        exact ih
      · rw [if_neg (by unfold cHd; simp [h2])] at ih
        repeat (refine gV_s rfl (by first | exact trivial | omega) ?_)
        exact ih
    · rw [if_neg (by unfold cHd; simp [h1])] at ih
      repeat (refine gV_s rfl (by first | exact trivial | omega) ?_)
      exact ih
theorem ok_held {d : Nat} {M : Mem} {b : Int} {P : PV → Mem → Prop} (h : MR M) (hb : rng b) (hP : P (vI (ct (cHd M b) (M 47 16).toNat)) M) : gOk mX7_held d [vR 47, vI b] M P := by
  have hn := h.1
  refine gOk_of mX7_held_ok (by simp) (Nat.le_of_ble_eq_true rfl) ?_
  repeat (refine gV_s rfl (by first | exact trivial | omega) ?_)
  exact held_loop h hb hP (M 47 16).toNat 0 (by omega)
def cFl (M : Mem) (f s : Int) : Int → Bool := fun j => decide (M 58 j = f ∧ (s < 0 ∨ M 61 j = s))
theorem ofl_loop {d : Nat} {M : Mem} {f s : Int} {P : PV → Mem → Prop} (h : MR M) (hf : rng f) (hs : rng s) (hP : P (vI (ct (cFl M f s) (M 47 16).toNat)) M) : ∀ (n k : Nat), (k : Int) + n = M 47 16 → gV mX7_ofFlowIn d P 11 [vR 47, vI f, vI s, vI (ct (cFl M f s) k), vI k] [vI (M 47 16), vI k] M
  | 0, k, hk => by
    have hn := h.1
    have e : k = (M 47 16).toNat := by omega
    refine gV_it rfl (by unfold rng; omega) (by omega) ?_
    repeat (refine gV_s rfl (by first | exact trivial | omega) ?_)
    rw [e]
    exact gV_ret rfl trivial hP
  | n + 1, k, hk => by
    have hn := h.1
    have hi := h.2.2.2.2.2.2.2.2.2.1 k
    have ih := ofl_loop (d := d) h hf hs hP n (k + 1) (by push_cast; omega)
    rw [ct_s _ k] at ih
    unfold rng at hf hs
    refine gV_in rfl (by unfold rng; omega) (by omega) ?_
    repeat (refine gV_s rfl (by first | exact trivial | omega) ?_)
    refine gV_i rfl (by unfold rng; omega) (fun h1 => ?_) (fun h1 => ?_)
    · repeat (refine gV_s rfl (by first | exact trivial | omega) ?_)
      refine gV_i rfl (by unfold rng; omega) (fun h2 => ?_) (fun h2 => ?_)
      · rw [if_pos (by unfold cFl; simp [h1, h2])] at ih
        repeat (refine gV_s rfl (by first | exact trivial | omega) ?_)
        exact ih
      · repeat (refine gV_s rfl (by first | exact trivial | omega) ?_)
        refine gV_i rfl (by unfold rng; omega) (fun h3 => ?_) (fun h3 => ?_)
        · rw [if_pos (by unfold cFl; simp [h1, h3])] at ih
          repeat (refine gV_s rfl (by first | exact trivial | omega) ?_)
          exact ih
        · rw [if_neg (by unfold cFl; simp [h2, h3])] at ih
          repeat (refine gV_s rfl (by first | exact trivial | omega) ?_)
          exact ih
    · rw [if_neg (by unfold cFl; simp [h1])] at ih
      repeat (refine gV_s rfl (by first | exact trivial | omega) ?_)
      exact ih
theorem ok_ofFlowIn {d : Nat} {M : Mem} {f s : Int} {P : PV → Mem → Prop} (h : MR M) (hf : rng f) (hs : rng s) (hP : P (vI (ct (cFl M f s) (M 47 16).toNat)) M) : gOk mX7_ofFlowIn d [vR 47, vI f, vI s] M P := by
  have hn := h.1
  refine gOk_of mX7_ofFlowIn_ok (by simp) (Nat.le_of_ble_eq_true rfl) ?_
  repeat (refine gV_s rfl (by first | exact trivial | omega) ?_)
  exact ofl_loop h hf hs hP (M 47 16).toNat 0 (by omega)
def cIn (M : Mem) (s l : Int) : Int → Bool := fun j => decide (M 61 j = s ∧ (l < 0 ∨ M 62 j = l))
theorem ins_loop {d : Nat} {M : Mem} {s l : Int} {P : PV → Mem → Prop} (h : MR M) (hs : rng s) (hl : rng l) (hP : P (vI (ct (cIn M s l) (M 47 16).toNat)) M) : ∀ (n k : Nat), (k : Int) + n = M 47 16 → gV mX7_inState d P 11 [vR 47, vI s, vI l, vI (ct (cIn M s l) k), vI k] [vI (M 47 16), vI k] M
  | 0, k, hk => by
    have hn := h.1
    have e : k = (M 47 16).toNat := by omega
    refine gV_it rfl (by unfold rng; omega) (by omega) ?_
    repeat (refine gV_s rfl (by first | exact trivial | omega) ?_)
    rw [e]
    exact gV_ret rfl trivial hP
  | n + 1, k, hk => by
    have hn := h.1
    have hi := h.2.2.2.2.2.2.2.2.2.1 k
    have hi2 := hi.2.2.2.2.2 (by omega) (by omega)
    have ih := ins_loop (d := d) h hs hl hP n (k + 1) (by push_cast; omega)
    rw [ct_s _ k] at ih
    unfold rng at hs hl
    refine gV_in rfl (by unfold rng; omega) (by omega) ?_
    repeat (refine gV_s rfl (by first | exact trivial | omega) ?_)
    refine gV_i rfl (by unfold rng; omega) (fun h1 => ?_) (fun h1 => ?_)
    · repeat (refine gV_s rfl (by first | exact trivial | omega) ?_)
      refine gV_i rfl (by unfold rng; omega) (fun h2 => ?_) (fun h2 => ?_)
      · rw [if_pos (by unfold cIn; simp [h1, h2])] at ih
        repeat (refine gV_s rfl (by first | exact trivial | omega) ?_)
        exact ih
      · repeat (refine gV_s rfl (by first | exact trivial | omega) ?_)
        refine gV_i rfl (by unfold rng; omega) (fun h3 => ?_) (fun h3 => ?_)
        · rw [if_pos (by unfold cIn; simp [h1, h3])] at ih
          repeat (refine gV_s rfl (by first | exact trivial | omega) ?_)
          exact ih
        · rw [if_neg (by unfold cIn; simp [h2, h3])] at ih
          repeat (refine gV_s rfl (by first | exact trivial | omega) ?_)
          exact ih
    · rw [if_neg (by unfold cIn; simp [h1])] at ih
      repeat (refine gV_s rfl (by first | exact trivial | omega) ?_)
      exact ih
theorem ok_inState {d : Nat} {M : Mem} {s l : Int} {P : PV → Mem → Prop} (h : MR M) (hs : rng s) (hl : rng l) (hP : P (vI (ct (cIn M s l) (M 47 16).toNat)) M) : gOk mX7_inState d [vR 47, vI s, vI l] M P := by
  have hn := h.1
  refine gOk_of mX7_inState_ok (by simp) (Nat.le_of_ble_eq_true rfl) ?_
  repeat (refine gV_s rfl (by first | exact trivial | omega) ?_)
  exact ins_loop h hs hl hP (M 47 16).toNat 0 (by omega)
/-! who is first -/
def isQ (M : Mem) (l i : Int) : Prop := M 61 i = 1 ∧ M 62 i = l
def fstQ (M : Mem) (l : Int) (k r : Int) : Prop := (r = -6 ∧ ∀ i, 0 ≤ i → i < k → ¬ isQ M l i) ∨ (0 ≤ r ∧ r < k ∧ isQ M l r ∧ ∀ i, 0 ≤ i → i < k → isQ M l i → M 67 r ≤ M 67 i)
theorem fq_loop {d : Nat} {M : Mem} {l : Int} (h : MR M) (hl : rng l) : ∀ (n k : Nat) (r : Int) (z : PV), (k : Int) + n = M 47 16 → fstQ M l k r → gV mX7_firstQueued d (fun v M' => M' = M ∧ ∃ r, v = vI r ∧ fstQ M l (M 47 16) r) 10 [vR 47, vI l, vI r, vI k, z] [vI (M 47 16), vI k] M
  | 0, k, r, z, hk, hr => by
    have hn := h.1
    rw [show (k : Int) = M 47 16 by omega] at hr
    refine gV_it rfl (by unfold rng; omega) (by omega) ?_
    repeat (refine gV_s rfl (by first | exact trivial | omega) ?_)
    exact gV_ret rfl trivial ⟨rfl, r, rfl, hr⟩
  | n + 1, k, r, z, hk, hr => by
    have hn := h.1
    have hi := h.2.2.2.2.2.2.2.2.2.1 k
    have hi2 := hi.2.2.2.2.2 (by omega) (by omega)
    have hst := h.2.2.2.2.2.2.2.2.2.2.2.2.2.1
    have ih := fun r z hr => fq_loop (d := d) h hl n (k + 1) r z (by push_cast; omega) hr
    have hrr : r = -6 ∨ (0 ≤ r ∧ r < k) := by rcases hr with q | q; exact Or.inl q.1; exact Or.inr ⟨q.1, q.2.1⟩
    have take : isQ M l k → (r < 0 ∨ M 67 k < M 67 r) → fstQ M l ((k + 1 : Nat) : Int) k := by
      intro hq hlt
      refine Or.inr ⟨by omega, by push_cast; omega, hq, fun i i0 i1 i2 => ?_⟩
      by_cases e : i = k
      · subst e; exact Int.le_refl _
      · rcases hr with q | q
        · exact absurd i2 (q.2 i i0 (by push_cast at i1; omega))
        · have := q.2.2.2 i i0 (by push_cast at i1; omega) i2
          rcases hlt with w | w
          · omega
          · omega
    have keep : (isQ M l k → 0 ≤ r ∧ M 67 r ≤ M 67 k) → fstQ M l ((k + 1 : Nat) : Int) r := by
      intro hq
      rcases hr with q | q
      · refine Or.inl ⟨q.1, fun i i0 i1 => ?_⟩
        by_cases e : i = k
        · subst e; intro w; have := hq w; omega
        · exact q.2 i i0 (by push_cast at i1; omega)
      · refine Or.inr ⟨q.1, by push_cast; omega, q.2.2.1, fun i i0 i1 i2 => ?_⟩
        by_cases e : i = k
        · subst e; exact (hq i2).2
        · exact q.2.2.2 i i0 (by push_cast at i1; omega) i2
    unfold rng at hl
    refine gV_in rfl (by unfold rng; omega) (by omega) ?_
    have no : ¬ isQ M l k → gV mX7_firstQueued d (fun v M' => M' = M ∧ ∃ r, v = vI r ∧ fstQ M l (M 47 16) r) 37 [vR 47, vI l, vI r, vI k, z] [] M := by
      intro hq
      repeat (refine gV_s rfl (by first | exact trivial | omega) ?_)
      refine gV_it rfl (by unfold rng; omega) rfl ?_
      repeat (refine gV_s rfl (by first | exact trivial | omega) ?_)
      exact ih _ _ (keep (fun w => absurd w hq))
    repeat (refine gV_s rfl (by first | exact trivial | omega) ?_)
    refine gV_i rfl (by unfold rng; omega) (fun h1 => ?_) (fun h1 => ?_)
    · repeat (refine gV_s rfl (by first | exact trivial | omega) ?_)
      refine gV_i rfl (by unfold rng; omega) (fun h2 => ?_) (fun h2 => ?_)
      · have hq : isQ M l k := ⟨h1, h2⟩
        repeat (refine gV_s rfl (by first | exact trivial | omega) ?_)
        refine gV_in rfl (by unfold rng; omega) (by omega) ?_
        repeat (refine gV_s rfl (by first | exact trivial | omega) ?_)
        refine gV_i rfl (by unfold rng; omega) (fun h3 => ?_) (fun h3 => ?_)
        · repeat (refine gV_s rfl (by first | exact trivial | omega) ?_)
          exact ih _ _ (take hq (Or.inl h3))
        · have s1 := (hst k).1
          have s2 := (hst r).1
          repeat (refine gV_s rfl (by first | exact trivial | omega) ?_)
          refine gV_i rfl ⟨s1, s2⟩ (fun h4 => ?_) (fun h4 => ?_)
          · repeat (refine gV_s rfl (by first | exact trivial | omega) ?_)
            exact ih _ _ (keep (fun _ => ⟨by omega, h4⟩))
          · repeat (refine gV_s rfl (by first | exact trivial | omega) ?_)
            exact ih _ _ (take hq (Or.inr (by omega)))
      · exact no (fun q => h2 q.2)
    · exact no (fun q => h1 q.1)
theorem ok_firstQueued {d : Nat} {M : Mem} {l : Int} (h : MR M) (hl : rng l) : gOk mX7_firstQueued d [vR 47, vI l] M (fun v M' => M' = M ∧ ∃ r, v = vI r ∧ fstQ M l (M 47 16) r) := by
  have hn := h.1
  refine gOk_of mX7_firstQueued_ok (by simp) (Nat.le_of_ble_eq_true rfl) ?_
  repeat (refine gV_s rfl (by first | exact trivial | omega) ?_)
  exact fq_loop h hl (M 47 16).toNat 0 (-6) none (by omega) (Or.inl ⟨rfl, fun i i0 i1 => by omega⟩)
def isA (M : Mem) (l i : Int) : Prop := M 61 i = 2 ∧ M 62 i = l ∧ M 65 i = M 47 0
def fstA (M : Mem) (l : Int) (k r : Int) : Prop := (r = -6 ∧ ∀ i, 0 ≤ i → i < k → ¬ isA M l i) ∨ (0 ≤ r ∧ r < k ∧ isA M l r ∧ ∀ i, 0 ≤ i → i < k → isA M l i → M 68 r ≤ M 68 i)
theorem fa_loop {d : Nat} {M : Mem} {l : Int} (h : MR M) (hl : rng l) : ∀ (n k : Nat) (r : Int) (z : PV), (k : Int) + n = M 47 16 → fstA M l k r → gV mX7_firstArriving d (fun v M' => M' = M ∧ ∃ r, v = vI r ∧ fstA M l (M 47 16) r) 10 [vR 47, vI l, vI r, vI k, z] [vI (M 47 16), vI k] M
  | 0, k, r, z, hk, hr => by
    have hn := h.1
    rw [show (k : Int) = M 47 16 by omega] at hr
    refine gV_it rfl (by unfold rng; omega) (by omega) ?_
    repeat (refine gV_s rfl (by first | exact trivial | omega) ?_)
    exact gV_ret rfl trivial ⟨rfl, r, rfl, hr⟩
  | n + 1, k, r, z, hk, hr => by
    have hn := h.1
    have htm := h.2.2.2.1
    have hi := h.2.2.2.2.2.2.2.2.2.1 k
    have hi2 := hi.2.2.2.2.2 (by omega) (by omega)
    have hst := h.2.2.2.2.2.2.2.2.2.2.2.2.2.1
    have ih := fun r z hr => fa_loop (d := d) h hl n (k + 1) r z (by push_cast; omega) hr
    have hrr : r = -6 ∨ (0 ≤ r ∧ r < k) := by rcases hr with q | q; exact Or.inl q.1; exact Or.inr ⟨q.1, q.2.1⟩
    have take : isA M l k → (r < 0 ∨ M 68 k < M 68 r) → fstA M l ((k + 1 : Nat) : Int) k := by
      intro hq hlt
      refine Or.inr ⟨by omega, by push_cast; omega, hq, fun i i0 i1 i2 => ?_⟩
      by_cases e : i = k
      · subst e; exact Int.le_refl _
      · rcases hr with q | q
        · exact absurd i2 (q.2 i i0 (by push_cast at i1; omega))
        · have := q.2.2.2 i i0 (by push_cast at i1; omega) i2
          rcases hlt with w | w
          · omega
          · omega
    have keep : (isA M l k → 0 ≤ r ∧ M 68 r ≤ M 68 k) → fstA M l ((k + 1 : Nat) : Int) r := by
      intro hq
      rcases hr with q | q
      · refine Or.inl ⟨q.1, fun i i0 i1 => ?_⟩
        by_cases e : i = k
        · subst e; intro w; have := hq w; omega
        · exact q.2 i i0 (by push_cast at i1; omega)
      · refine Or.inr ⟨q.1, by push_cast; omega, q.2.2.1, fun i i0 i1 i2 => ?_⟩
        by_cases e : i = k
        · subst e; exact (hq i2).2
        · exact q.2.2.2 i i0 (by push_cast at i1; omega) i2
    unfold rng at hl
    refine gV_in rfl (by unfold rng; omega) (by omega) ?_
    have no : ¬ isA M l k → gV mX7_firstArriving d (fun v M' => M' = M ∧ ∃ r, v = vI r ∧ fstA M l (M 47 16) r) 50 [vR 47, vI l, vI r, vI k, z] [] M := by
      intro hq
      repeat (refine gV_s rfl (by first | exact trivial | omega) ?_)
      refine gV_it rfl (by unfold rng; omega) rfl ?_
      repeat (refine gV_s rfl (by first | exact trivial | omega) ?_)
      exact ih _ _ (keep (fun w => absurd w hq))
    repeat (refine gV_s rfl (by first | exact trivial | omega) ?_)
    refine gV_i rfl (by unfold rng; omega) (fun h1 => ?_) (fun h1 => ?_)
    · repeat (refine gV_s rfl (by first | exact trivial | omega) ?_)
      refine gV_i rfl (by unfold rng; omega) (fun h2 => ?_) (fun h2 => ?_)
      · repeat (refine gV_s rfl (by first | exact trivial | omega) ?_)
        refine gV_i rfl (by unfold rng; omega) (fun h5 => ?_) (fun h5 => ?_)
        · have hq : isA M l k := ⟨h1, h2, h5⟩
          repeat (refine gV_s rfl (by first | exact trivial | omega) ?_)
          refine gV_in rfl (by unfold rng; omega) (by omega) ?_
          repeat (refine gV_s rfl (by first | exact trivial | omega) ?_)
          refine gV_i rfl (by unfold rng; omega) (fun h3 => ?_) (fun h3 => ?_)
          · repeat (refine gV_s rfl (by first | exact trivial | omega) ?_)
            exact ih _ _ (take hq (Or.inl h3))
          · have s1 := (hst k).2
            have s2 := (hst r).2
            repeat (refine gV_s rfl (by first | exact trivial | omega) ?_)
            refine gV_i rfl ⟨s1, s2⟩ (fun h4 => ?_) (fun h4 => ?_)
            · repeat (refine gV_s rfl (by first | exact trivial | omega) ?_)
              exact ih _ _ (keep (fun _ => ⟨by omega, h4⟩))
            · repeat (refine gV_s rfl (by first | exact trivial | omega) ?_)
              exact ih _ _ (take hq (Or.inr (by omega)))
        · exact no (fun q => h5 q.2.2)
      · exact no (fun q => h2 q.2.1)
    · exact no (fun q => h1 q.1)
theorem ok_firstArriving {d : Nat} {M : Mem} {l : Int} (h : MR M) (hl : rng l) : gOk mX7_firstArriving d [vR 47, vI l] M (fun v M' => M' = M ∧ ∃ r, v = vI r ∧ fstA M l (M 47 16) r) := by
  have hn := h.1
  refine gOk_of mX7_firstArriving_ok (by simp) (Nat.le_of_ble_eq_true rfl) ?_
  repeat (refine gV_s rfl (by first | exact trivial | omega) ?_)
  exact fa_loop h hl (M 47 16).toNat 0 (-6) none (by omega) (Or.inl ⟨rfl, fun i i0 i1 => by omega⟩)
theorem ok_comesOut {d : Nat} {M : Mem} {i : Int} {P : PV → Mem → Prop} (i0 : 0 ≤ i) (i4 : i < 400) (h0 : 0 ≤ M 47 29) (h1 : M 47 29 < 400) (hP : P none (mOut M i)) : gOk mX7_comesOut d [vR 47, vI i] M P := by
  refine gOk_of mX7_comesOut_ok (by simp) (Nat.le_of_ble_eq_true rfl) ?_
  repeat (refine gV_s rfl (by first | exact trivial | omega) ?_)
  refine gV_s rfl ⟨h0, h1⟩ ?_
  repeat (refine gV_s rfl (by first | exact trivial | omega) ?_)
  exact gV_retv rfl trivial hP

def nxtP (M : Mem) (i : Int) (k : Int) : Prop := ∀ j, 0 ≤ j → j < k → M 58 j ≠ M 58 i ∨ 4 ≤ M 61 j
theorem next_loop {d : Nat} {M : Mem} {i : Int} (h : MR M) (i0 : 0 ≤ i) (i1 : i < 400) : ∀ (n k : Nat) (z : Int), (k : Int) + n = i → (z = 0 ∨ z = 1) → (z = 1 ↔ nxtP M i k) →
    gV mX7_isNext d (yn (nxtP M i i) M) 6 [vR 47, vI i, vI z, vI k] [vI i, vI k] M
  | 0, k, z, hk, hz1, hz => by
    refine gV_it rfl (by unfold rng; omega) (by omega) ?_
    repeat (refine gV_s rfl (by first | exact trivial | omega) ?_)
    rw [show (k : Int) = i by omega] at hz
    rcases hz1 with rfl | rfl
    · exact gV_ret rfl (Or.inl rfl) ⟨rfl, Or.inr ⟨fun q => by have := hz.mpr q; omega, rfl⟩⟩
    · exact gV_ret rfl (Or.inr rfl) ⟨rfl, Or.inl ⟨hz.mp rfl, rfl⟩⟩
  | n + 1, k, z, hk, hz1, hz => by
    have hk1 := h.2.2.2.2.2.2.2.2.2.1 k
    have hi1 := h.2.2.2.2.2.2.2.2.2.1 i
    have ih := fun z a b => next_loop (d := d) h i0 i1 n (k + 1) z (by push_cast; omega) a b
    have step : nxtP M i ((k + 1 : Nat) : Int) ↔ nxtP M i k ∧ (M 58 k ≠ M 58 i ∨ 4 ≤ M 61 k) := by
      constructor
      · intro q
        exact ⟨fun j j0 j1 => q j j0 (by push_cast; omega), q k (by omega) (by push_cast; omega)⟩
      · rintro ⟨q1, q2⟩ j j0 j1
        by_cases e : j = k
        · subst e; exact q2
        · exact q1 j j0 (by push_cast at j1; omega)
    rw [step] at ih
    refine gV_in rfl (by clear hz step ih; unfold rng; omega) (by clear hz step ih; omega) ?_
    repeat (refine gV_s rfl (by first | exact trivial | omega) ?_)
    refine gV_i rfl (by clear hz step ih; unfold rng; omega) (fun h1 => ?_) (fun h1 => ?_)
    · repeat (refine gV_s rfl (by first | exact trivial | omega) ?_)
      exact ih 0 (Or.inl rfl) ⟨fun q => by omega, fun q => by have := hz.mpr q.1; omega⟩
    · have hz2 : z = 1 := by rcases hz1 with q | q; exact absurd q h1; exact q
      have hq := hz.mp hz2
      repeat (refine gV_s rfl (by first | exact trivial | omega) ?_)
      refine gV_i rfl (by clear hz step ih; unfold rng; omega) (fun h2 => ?_) (fun h2 => ?_)
      · repeat (refine gV_s rfl (by first | exact trivial | omega) ?_)
        refine gV_i rfl (by clear hz step ih; unfold rng; omega) (fun h3 => ?_) (fun h3 => ?_)
        · repeat (refine gV_s rfl (by first | exact trivial | omega) ?_)
          refine ih 0 (Or.inl rfl) ⟨fun q => by omega, fun q => ?_⟩
          rcases q.2 with w | w
          · exact absurd h2 w
          · exact absurd h3 (Int.not_lt.mpr w)
        · repeat (refine gV_s rfl (by first | exact trivial | omega) ?_)
          exact ih 1 (Or.inr rfl) ⟨fun _ => ⟨hq, Or.inr (Int.not_lt.mp h3)⟩, fun _ => rfl⟩
      · repeat (refine gV_s rfl (by first | exact trivial | omega) ?_)
        exact ih 1 (Or.inr rfl) ⟨fun _ => ⟨hq, Or.inl h2⟩, fun _ => rfl⟩
theorem ok_isNext {d : Nat} {M : Mem} {i : Int} (h : MR M) (i0 : 0 ≤ i) (i1 : i < 400) : gOk mX7_isNext d [vR 47, vI i] M (yn (nxtP M i i) M) := by
  refine gOk_of mX7_isNext_ok (by simp) (Nat.le_of_ble_eq_true rfl) ?_
  repeat (refine gV_s rfl (by first | exact trivial | omega) ?_)
  exact next_loop h i0 i1 i.toNat 0 1 (by omega) (Or.inr rfl) ⟨fun _ j j0 j1 => by omega, fun _ => rfl⟩
def lateP (M : Mem) (l i : Int) : Prop := M 61 i = 1 ∨ (M 61 i = 2 ∧ M 47 0 + 1 + M 49 l ≤ M 65 i)
def canP (M : Mem) (b l k : Int) : Prop := ∀ i, 0 ≤ i → i < k → M 60 i = b → ¬ lateP M l i
theorem can_loopM {d : Nat} {M : Mem} {b l : Int} (h : MR M) (hb : rng b) (l0 : 0 ≤ l) (l4 : l < 4) : ∀ (n k : Nat) (z : Int) (w : PV), (k : Int) + n = M 47 16 → (z = 0 ∨ z = 1) → (z = 1 ↔ canP M b l k) →
    gV mX7_canCome d (yn (canP M b l (M 47 16)) M) 11 [vR 47, vI b, vI l, vI z, vI k, w] [vI (M 47 16), vI k] M
  | 0, k, z, w, hk, hz1, hz => by
    have hn := h.1
    refine gV_it rfl (by clear hz; unfold rng; omega) (by clear hz; omega) ?_
    repeat (refine gV_s rfl (by first | exact trivial | omega) ?_)
    rw [show (k : Int) = M 47 16 by omega] at hz
    rcases hz1 with rfl | rfl
    · exact gV_ret rfl (Or.inl rfl) ⟨rfl, Or.inr ⟨fun q => by have := hz.mpr q; omega, rfl⟩⟩
    · exact gV_ret rfl (Or.inr rfl) ⟨rfl, Or.inl ⟨hz.mp rfl, rfl⟩⟩
  | n + 1, k, z, w, hk, hz1, hz => by
    have hn := h.1
    have htm := h.2.2.2.1
    have hdl := (h.2.2.2.2.2.2.2.2.2.2.2.1 l).2.1
    have hk1 := h.2.2.2.2.2.2.2.2.2.1 k
    have ih := fun z w a b' => can_loopM (d := d) h hb l0 l4 n (k + 1) z w (by push_cast; omega) a b'
    have step : canP M b l ((k + 1 : Nat) : Int) ↔ canP M b l k ∧ (M 60 k = b → ¬ lateP M l k) := by
      constructor
      · intro q
        exact ⟨fun j j0 j1 => q j j0 (by push_cast; omega), q k (by omega) (by push_cast; omega)⟩
      · rintro ⟨q1, q2⟩ j j0 j1
        by_cases e : j = k
        · subst e; exact q2
        · exact q1 j j0 (by push_cast at j1; omega)
    rw [step] at ih
    unfold rng at hb
    have fin : ∀ v : Int, (v = 0 ∨ v = 1) → (v = 1 ↔ lateP M l k) → gV mX7_canCome d (yn (canP M b l (M 47 16)) M) 64 [vR 47, vI b, vI l, vI z, vI k, w] [vI v] M := by
      intro v hv1 hv
      repeat (refine gV_s rfl (by first | exact trivial | omega) ?_)
      refine gV_i rfl (by clear hz step ih hv; unfold rng; omega) (fun h1 => ?_) (fun h1 => ?_)
      · repeat (refine gV_s rfl (by first | exact trivial | omega) ?_)
        exact ih 0 _ (Or.inl rfl) ⟨fun q => by omega, fun q => by have := hz.mpr q.1; omega⟩
      · have hz2 : z = 1 := by rcases hz1 with q | q; exact absurd q h1; exact q
        have hq := hz.mp hz2
        repeat (refine gV_s rfl (by first | exact trivial | omega) ?_)
        refine gV_i rfl (by clear hz step ih hv; unfold rng; omega) (fun h2 => ?_) (fun h2 => ?_)
        · repeat (refine gV_s rfl (by first | exact trivial | omega) ?_)
          refine gV_i rfl (by clear hz step ih hv; unfold rng; omega) (fun h3 => ?_) (fun h3 => ?_)
          · repeat (refine gV_s rfl (by first | exact trivial | omega) ?_)
            exact ih 1 _ (Or.inr rfl) ⟨fun _ => ⟨hq, fun _ q => by have := hv.mpr q; omega⟩, fun _ => rfl⟩
          · repeat (refine gV_s rfl (by first | exact trivial | omega) ?_)
            have hv2 : v = 1 := by rcases hv1 with q | q; exact absurd q h3; exact q
            exact ih 0 _ (Or.inl rfl) ⟨fun q => by omega, fun q => absurd (hv.mp hv2) (q.2 h2)⟩
        · repeat (refine gV_s rfl (by first | exact trivial | omega) ?_)
          exact ih 1 _ (Or.inr rfl) ⟨fun _ => ⟨hq, fun q => absurd q h2⟩, fun _ => rfl⟩
    refine gV_in rfl (by clear hz step ih fin; unfold rng; omega) (by clear hz step ih fin; omega) ?_
    repeat (refine gV_s rfl (by first | exact trivial | omega) ?_)
    refine gV_i rfl (by clear hz step ih fin; unfold rng; omega) (fun h1 => ?_) (fun h1 => ?_)
    · refine gV_s rfl trivial (gV_s rfl trivial ?_)
      exact fin 1 (Or.inr rfl) ⟨fun _ => Or.inl h1, fun _ => rfl⟩
    · repeat (refine gV_s rfl (by first | exact trivial | omega) ?_)
      refine gV_i rfl (by clear hz step ih fin; unfold rng; omega) (fun h2 => ?_) (fun h2 => ?_)
      · repeat (refine gV_s rfl (by first | exact trivial | omega) ?_)
        refine gV_i rfl (by clear hz step ih fin; unfold rng; omega) (fun h3 => ?_) (fun h3 => ?_)
        · refine gV_s rfl trivial ?_
          refine fin 0 (Or.inl rfl) ⟨fun q => by omega, fun q => ?_⟩
          rcases q with q | q
          · exact absurd q h1
          · exact absurd h3 (Int.not_lt.mpr q.2)
        · refine gV_s rfl trivial (gV_s rfl trivial ?_)
          exact fin 1 (Or.inr rfl) ⟨fun _ => Or.inr ⟨h2, Int.not_lt.mp h3⟩, fun _ => rfl⟩
      · refine gV_s rfl trivial ?_
        refine fin 0 (Or.inl rfl) ⟨fun q => by omega, fun q => ?_⟩
        rcases q with q | q
        · exact absurd q h1
        · exact absurd q.1 h2
theorem ok_canCome {d : Nat} {M : Mem} {b l : Int} (h : MR M) (hb : rng b) (l0 : 0 ≤ l) (l4 : l < 4) : gOk mX7_canCome d [vR 47, vI b, vI l] M (yn (canP M b l (M 47 16)) M) := by
  have hn := h.1
  refine gOk_of mX7_canCome_ok (by simp) (Nat.le_of_ble_eq_true rfl) ?_
  repeat (refine gV_s rfl (by first | exact trivial | omega) ?_)
  exact can_loopM h hb l0 l4 (M 47 16).toNat 0 1 none (by omega) (Or.inr rfl) ⟨fun _ j j0 j1 => by omega, fun _ => rfl⟩
theorem mayk_iff {S : Mem} {b l : Int} : ∀ k : Nat, mayk S b l k = true ↔ ∀ i : Int, 0 ≤ i → i < k → S 33 i = b → ¬ (S 34 i = 1 ∨ (S 34 i = 2 ∧ S 5 0 + 1 + S 8 l ≤ S 38 i))
  | 0 => ⟨fun _ i i0 i1 => by omega, fun _ => rfl⟩
  | k + 1 => by
    have ih := mayk_iff (S := S) (b := b) (l := l) k
    simp only [mayk, Bool.and_eq_true, ih]
    constructor
    · rintro ⟨q1, q2⟩ i i0 i1 i2
      by_cases e : i = k
      · subst e
        simp [i2] at q2
        rintro (w | w)
        · exact q2.1 w
        · have := q2.2
          omega
      · exact q1 i i0 (by push_cast at i1; omega) i2
    · intro q
      refine ⟨fun i i0 i1 => q i i0 (by push_cast; omega), ?_⟩
      have h1 := q k (by omega) (by push_cast; omega)
      by_cases e : S 33 k = b
      · have h2 := h1 e
        simp only [not_or, not_and] at h2
        simp only [e, decide_true, Bool.true_and, Bool.not_eq_true', Bool.or_eq_false_iff, decide_eq_false_iff_not, Bool.and_eq_false_imp, decide_eq_true_eq]
        exact h2
      · simp [e]
theorem can_may {S M : Mem} {lo : Int → Int} {x B b l : Int} (h : AI S lo x) (hR : RM S M B) : canP M b l (M 47 16) ↔ may S b l = true := by
  have h4 := h.1.2.2.1
  unfold canP lateP may
  rw [mayk_iff, hR.1.2.2.2.2.2.2.2.2.2.2.2.2.1, hR.1.2.2.2.2.2.2.2.2.2.2.2.2.2.1, hR.1.2.1, hR.1.2.2.2.2.2.2.2.2.2.2.2.2.2.2.2.2.2.1, hR.2.1.1, hR.2.1.2.2.2.2.2.2.1, show (((S 4 0).toNat : Nat) : Int) = S 4 0 by omega]
theorem bkOn_loop {d : Nat} {M : Mem} {l : Int} {P : PV → Mem → Prop} (h : MR M) (hl : rng l) (hP : P (vI (ct (is_ (M 52) l) 8)) M) : ∀ (n k : Nat), k + n = 8 → gV mX7_bucketsOn d P 7 [vR 47, vI l, vI (ct (is_ (M 52) l) k), vI k] [vI 8, vI k] M
  | 0, k, hk => by
    have e : k = 8 := by omega
    subst e
    refine gV_it rfl (by unfold rng; omega) (show (8 : Int) ≤ _ by omega) ?_
    repeat (refine gV_s rfl (by first | exact trivial | omega) ?_)
    exact gV_ret rfl trivial hP
  | n + 1, k, hk => by
    have hb := (h.2.2.2.2.2.2.2.2.2.2.1 k).1
    have ih := bkOn_loop (d := d) h hl hP n (k + 1) (by omega)
    rw [ct_s _ k] at ih
    unfold rng at hl
    refine gV_in rfl (by unfold rng; omega) (show ¬ (8 : Int) ≤ _ by omega) ?_
    repeat (refine gV_s rfl (by first | exact trivial | omega) ?_)
    refine gV_i rfl (by unfold rng; omega) (fun h1 => ?_) (fun h1 => ?_)
    · rw [if_pos (by simpa using h1)] at ih
      repeat (refine gV_s rfl (by first | exact trivial | omega) ?_)
      exact ih
    · rw [if_neg (by simpa using h1)] at ih
      repeat (refine gV_s rfl (by first | exact trivial | omega) ?_)
      exact ih
theorem ok_bucketsOn {d : Nat} {M : Mem} {l : Int} {P : PV → Mem → Prop} (h : MR M) (hl : rng l) (hP : P (vI (ct (is_ (M 52) l) 8)) M) : gOk mX7_bucketsOn d [vR 47, vI l] M P := by
  refine gOk_of mX7_bucketsOn_ok (by simp) (Nat.le_of_ble_eq_true rfl) ?_
  repeat (refine gV_s rfl (by first | exact trivial | omega) ?_)
  exact bkOn_loop h hl hP 8 0 rfl
theorem noneUp_loop {d : Nat} {M : Mem} (h : MR M) : ∀ (n k : Nat) (z : Int), (k : Int) + n = M 47 1 → (z = 0 ∨ z = 1) → (z = 1 ↔ ∀ j, 0 ≤ j → j < (k : Int) → M 50 j = 0) → gV mX7_noneUp d (yn (∀ j, 0 ≤ j → j < M 47 1 → M 50 j = 0) M) 9 [vR 47, vI z, vI k] [vI (M 47 1), vI k] M
  | 0, k, z, hk, hz1, hz => by
    have hn := h.2.1
    refine gV_it rfl (by clear hz; unfold rng; omega) (by clear hz; omega) ?_
    repeat (refine gV_s rfl (by first | exact trivial | omega) ?_)
    rw [show (k : Int) = M 47 1 by omega] at hz
    rcases hz1 with rfl | rfl
    · exact gV_ret rfl (Or.inl rfl) ⟨rfl, Or.inr ⟨fun q => by have := hz.mpr q; omega, rfl⟩⟩
    · exact gV_ret rfl (Or.inr rfl) ⟨rfl, Or.inl ⟨hz.mp rfl, rfl⟩⟩
  | n + 1, k, z, hk, hz1, hz => by
    have hn := h.2.1
    have hu := (h.2.2.2.2.2.2.2.2.2.2.2.1 k).2.2
    have ih := fun z a b => noneUp_loop (d := d) h n (k + 1) z (by push_cast; omega) a b
    have step : (∀ j, 0 ≤ j → j < ((k + 1 : Nat) : Int) → M 50 j = 0) ↔ (∀ j, 0 ≤ j → j < (k : Int) → M 50 j = 0) ∧ M 50 k = 0 := by
      constructor
      · intro q
        exact ⟨fun j j0 j1 => q j j0 (by push_cast; omega), q k (by omega) (by push_cast; omega)⟩
      · rintro ⟨q1, q2⟩ j j0 j1
        by_cases e : j = k
        · subst e; exact q2
        · exact q1 j j0 (by push_cast at j1; omega)
    rw [step] at ih
    refine gV_in rfl (by clear hz step ih; unfold rng; omega) (by clear hz step ih; omega) ?_
    repeat (refine gV_s rfl (by first | exact trivial | omega) ?_)
    refine gV_i rfl (by clear hz step ih; unfold rng; omega) (fun h1 => ?_) (fun h1 => ?_)
    · repeat (refine gV_s rfl (by first | exact trivial | omega) ?_)
      exact ih 0 (Or.inl rfl) ⟨fun q => by omega, fun q => by have := hz.mpr q.1; omega⟩
    · have hz2 : z = 1 := by rcases hz1 with q | q; exact absurd q h1; exact q
      have hq := hz.mp hz2
      repeat (refine gV_s rfl (by first | exact trivial | omega) ?_)
      refine gV_i rfl (by clear hz step ih; unfold rng; omega) (fun h2 => ?_) (fun h2 => ?_)
      · repeat (refine gV_s rfl (by first | exact trivial | omega) ?_)
        exact ih 1 (Or.inr rfl) ⟨fun _ => ⟨hq, h2⟩, fun _ => rfl⟩
      · repeat (refine gV_s rfl (by first | exact trivial | omega) ?_)
        exact ih 0 (Or.inl rfl) ⟨fun q => by omega, fun q => absurd q.2 h2⟩
theorem ok_noneUp {d : Nat} {M : Mem} (h : MR M) : gOk mX7_noneUp d [vR 47] M (yn (∀ j, 0 ≤ j → j < M 47 1 → M 50 j = 0) M) := by
  have hn := h.2.1
  refine gOk_of mX7_noneUp_ok (by simp) (Nat.le_of_ble_eq_true rfl) ?_
  repeat (refine gV_s rfl (by first | exact trivial | omega) ?_)
  exact noneUp_loop h (M 47 1).toNat 0 1 (by omega) (Or.inr rfl) ⟨fun _ j j0 j1 => by omega, fun _ => rfl⟩
end
section
/-! The reference: rows one by one; held letters let go; a bucket settles. -/
theorem RM.e48 {S M : Mem} {B : Int} (h : RM S M B) : M 48 = S 7 := h.1.1
theorem RM.e49 {S M : Mem} {B : Int} (h : RM S M B) : M 49 = S 8 := h.1.2.1
theorem RM.e50 {S M : Mem} {B : Int} (h : RM S M B) : M 50 = S 9 := h.1.2.2.1
theorem RM.e51 {S M : Mem} {B : Int} (h : RM S M B) : M 51 = S 18 := h.1.2.2.2.1
theorem RM.e52 {S M : Mem} {B : Int} (h : RM S M B) : M 52 = S 19 := h.1.2.2.2.2.1
theorem RM.e53 {S M : Mem} {B : Int} (h : RM S M B) : M 53 = S 20 := h.1.2.2.2.2.2.1
theorem RM.e54 {S M : Mem} {B : Int} (h : RM S M B) : M 54 = S 21 := h.1.2.2.2.2.2.2.1
theorem RM.e55 {S M : Mem} {B : Int} (h : RM S M B) : M 55 = S 23 := h.1.2.2.2.2.2.2.2.1
theorem RM.e56 {S M : Mem} {B : Int} (h : RM S M B) : M 56 = S 24 := h.1.2.2.2.2.2.2.2.2.1
theorem RM.e57 {S M : Mem} {B : Int} (h : RM S M B) : M 57 = S 25 := h.1.2.2.2.2.2.2.2.2.2.1
theorem RM.e58 {S M : Mem} {B : Int} (h : RM S M B) : M 58 = S 31 := h.1.2.2.2.2.2.2.2.2.2.2.1
theorem RM.e59 {S M : Mem} {B : Int} (h : RM S M B) : M 59 = S 32 := h.1.2.2.2.2.2.2.2.2.2.2.2.1
theorem RM.e60 {S M : Mem} {B : Int} (h : RM S M B) : M 60 = S 33 := h.1.2.2.2.2.2.2.2.2.2.2.2.2.1
theorem RM.e61 {S M : Mem} {B : Int} (h : RM S M B) : M 61 = S 34 := h.1.2.2.2.2.2.2.2.2.2.2.2.2.2.1
theorem RM.e62 {S M : Mem} {B : Int} (h : RM S M B) : M 62 = S 35 := h.1.2.2.2.2.2.2.2.2.2.2.2.2.2.2.1
theorem RM.e63 {S M : Mem} {B : Int} (h : RM S M B) : M 63 = S 36 := h.1.2.2.2.2.2.2.2.2.2.2.2.2.2.2.2.1
theorem RM.e64 {S M : Mem} {B : Int} (h : RM S M B) : M 64 = S 37 := h.1.2.2.2.2.2.2.2.2.2.2.2.2.2.2.2.2.1
theorem RM.e65 {S M : Mem} {B : Int} (h : RM S M B) : M 65 = S 38 := h.1.2.2.2.2.2.2.2.2.2.2.2.2.2.2.2.2.2.1
theorem RM.e66 {S M : Mem} {B : Int} (h : RM S M B) : M 66 = S 39 := h.1.2.2.2.2.2.2.2.2.2.2.2.2.2.2.2.2.2.2.1
theorem RM.e69 {S M : Mem} {B : Int} (h : RM S M B) : M 69 = S 40 := h.1.2.2.2.2.2.2.2.2.2.2.2.2.2.2.2.2.2.2.2.1
theorem RM.e70 {S M : Mem} {B : Int} (h : RM S M B) : M 70 = S 43 := h.1.2.2.2.2.2.2.2.2.2.2.2.2.2.2.2.2.2.2.2.2
theorem RM.s0 {S M : Mem} {B : Int} (h : RM S M B) : M 47 0 = S 5 0 := h.2.1.1
theorem RM.s1 {S M : Mem} {B : Int} (h : RM S M B) : M 47 1 = S 1 0 := h.2.1.2.1
theorem RM.s10 {S M : Mem} {B : Int} (h : RM S M B) : M 47 10 = S 3 0 := h.2.1.2.2.1
theorem RM.s13 {S M : Mem} {B : Int} (h : RM S M B) : M 47 13 = S 3 1 := h.2.1.2.2.2.1
theorem RM.s14 {S M : Mem} {B : Int} (h : RM S M B) : M 47 14 = S 3 2 := h.2.1.2.2.2.2.1
theorem RM.s15 {S M : Mem} {B : Int} (h : RM S M B) : M 47 15 = S 5 1 := h.2.1.2.2.2.2.2.1
theorem RM.s16 {S M : Mem} {B : Int} (h : RM S M B) : M 47 16 = S 4 0 := h.2.1.2.2.2.2.2.2.1
theorem RM.s29 {S M : Mem} {B : Int} (h : RM S M B) : M 47 29 = S 41 4 := h.2.1.2.2.2.2.2.2.2.1
theorem RM.s31 {S M : Mem} {B : Int} (h : RM S M B) : M 47 31 = S 6 0 := h.2.1.2.2.2.2.2.2.2.2
theorem RM_w {S M : Mem} {B i v : Int} (hR : RM S M B) {rs rm : Nat} (hp : (rs = 7 ∧ rm = 48) ∨ (rs = 8 ∧ rm = 49) ∨ (rs = 9 ∧ rm = 50) ∨ (rs = 18 ∧ rm = 51) ∨ (rs = 19 ∧ rm = 52) ∨ (rs = 20 ∧ rm = 53) ∨ (rs = 21 ∧ rm = 54) ∨ (rs = 23 ∧ rm = 55) ∨ (rs = 24 ∧ rm = 56) ∨ (rs = 25 ∧ rm = 57)) : RM (mw S rs i v) (mw M rm i v) B := by
  obtain ⟨⟨e48, e49, e50, e51, e52, e53, e54, e55, e56, e57, e58, e59, e60, e61, e62, e63, e64, e65, e66, e69, e70⟩, ⟨t1, t2, t3, t4, t5, t6, t7, t8, t9⟩, hT⟩ := hR
  rcases hp with ⟨rfl, rfl⟩ | ⟨rfl, rfl⟩ | ⟨rfl, rfl⟩ | ⟨rfl, rfl⟩ | ⟨rfl, rfl⟩ | ⟨rfl, rfl⟩ | ⟨rfl, rfl⟩ | ⟨rfl, rfl⟩ | ⟨rfl, rfl⟩ | ⟨rfl, rfl⟩
  all_goals
    refine ⟨?_, ?_, ?_⟩
    · unfold Rr
      simp only [mw_rs, mw_rn, ne_eq, not_false_eq_true, Nat.reduceEqDiff, Nat.reduceLT, Nat.reduceLeDiff, true_or, or_true, forall_const]
      simp only [e48, e49, e50, e51, e52, e53, e54, e55, e56, e57, e58, e59, e60, e61, e62, e63, e64, e65, e66, e69, e70, and_self]
    · unfold Rs
      simp only [mw_rn, ne_eq, not_false_eq_true, Nat.reduceEqDiff, Nat.reduceLT, Nat.reduceLeDiff, true_or, or_true, forall_const]
      exact ⟨t1, t2, t3, t4, t5, t6, t7, t8, t9⟩
    · simp only [mw_rn, ne_eq, not_false_eq_true, Nat.reduceEqDiff, Nat.reduceLT, Nat.reduceLeDiff, true_or, or_true, forall_const]
      exact Rt_rw hT (fun k p k0 k4 => mwq (by omega) _ _ k0 k4)
theorem RM.enqH {S M : Mem} {B i l : Int} (hR : RM (aEnq S i l) M B) : RM (aEnqH S i l) M B := RM_S hR (fun r hr => by
  unfold aEnqH
  exact mw_rn _ _ _ (by rintro rfl; cases hr))
/-! letting go -/
def aLetsO (S : Mem) (b : Int) : Mem := if S 19 b = -6 then S else aLets S b (S 19 b) (S 4 0).toNat
def hdC (S : Mem) (b : Int) : Int → Bool := fun j => decide (S 34 j = 0 ∧ S 33 j = b)
theorem lets_loopM {d : Nat} {S T M : Mem} {lo : Int → Int} {x B b : Int} (h : AI T lo x) (hE : Ex [19, 20, 21, 23] S T) (b0 : 0 ≤ b) (b8 : b < 8) (hon : S 19 b = -6 ∨ T 9 (S 19 b) = 1) :
    ∀ (n k : Nat) (Mk : Mem), (k : Int) + n = T 4 0 → RM (if S 19 b = -6 then S else aLets S b (S 19 b) k) Mk (B + k) → Fr M Mk →
      gV mX7_lets (d + 1) (fun r M' => r = vI (T 22 b) ∧ RM (aLetsO S b) M' (B + 400) ∧ Fr M M') 9 [vR 47, vI b, vI (ct (hdC T b) k), vI k] [vI (T 4 0), vI k] Mk
  | 0, k, Mk, hk, hR, hF => by
    have h4 := h.1.2.2.1
    have e : k = (T 4 0).toNat := by omega
    have e4 : S 4 = T 4 := hE 4 (by decide)
    refine gV_it rfl (by unfold rng; omega) (by omega) ?_
    repeat (refine gV_s rfl (by first | exact trivial | omega) ?_)
    refine gV_ret rfl trivial ⟨?_, ?_, hF⟩
    · rw [h.2.2.2.2.2.2.2.2.1 b b0 b8, e]
      rfl
    · unfold aLetsO
      rw [e4, ← e]
      exact RM_B hR (by omega)
  | n + 1, k, Mk, hk, hR, hF => by
    have h4 := h.1.2.2.1
    have hT := h.2.2.2.2.2.2.1 k
    have ih := fun Mk' hR' hF' => lets_loopM (d := d) (M := M) (B := B) h hE b0 b8 hon n (k + 1) Mk' (by push_cast; omega) hR' hF'
    rw [ct_s _ k] at ih
    have e4 : S 4 = T 4 := hE 4 (by decide)
    have e33S : S 33 = T 33 := hE 33 (by decide)
    have e34S : S 34 = T 34 := hE 34 (by decide)
    have hon2 : -6 ≤ S 19 b ∧ S 19 b < 4 := by
      rcases hon with q | q
      · omega
      · have := AI_up h q; omega
    by_cases hc : S 19 b = -6
    · rw [if_pos hc] at hR
      simp only [if_pos hc] at ih
      have e61 : Mk 61 = T 34 := by rw [hR.e61]; exact e34S
      have e60 : Mk 60 = T 33 := by rw [hR.e60]; exact e33S
      have e16 : Mk 47 16 = T 4 0 := by rw [hR.s16, e4]
      have e52 : Mk 52 b = -6 := by rw [hR.e52, hc]
      have hR' : RM S Mk (B + ((k + 1 : Nat) : Int)) := RM_B hR (by push_cast; omega)
      refine gV_in rfl (by unfold rng; omega) (by omega) ?_
      repeat (refine gV_s rfl (by first | exact trivial | omega) ?_)
      rw [e61]
      refine gV_i rfl (by unfold rng; omega) (fun h1 => ?_) (fun h1 => ?_)
      · repeat (refine gV_s rfl (by first | exact trivial | omega) ?_)
        rw [e60]
        refine gV_i rfl (by unfold rng; omega) (fun h2 => ?_) (fun h2 => ?_)
        · rw [if_pos (by unfold hdC; simp [h1, h2])] at ih
          repeat (refine gV_s rfl (by first | exact trivial | omega) ?_)
          rw [e52]
          refine gV_it rfl (by unfold rng; omega) (by omega) ?_
          repeat (refine gV_s rfl (by first | exact trivial | omega) ?_)
          rw [e16]
          exact ih _ hR' hF
        · rw [if_neg (by unfold hdC; simp [h2]), Int.add_zero] at ih
          repeat (refine gV_s rfl (by first | exact trivial | omega) ?_)
          rw [e16]
          exact ih _ hR' hF
      · rw [if_neg (by unfold hdC; simp [h1]), Int.add_zero] at ih
        repeat (refine gV_s rfl (by first | exact trivial | omega) ?_)
        rw [e16]
        exact ih _ hR' hF
    · have hu : T 9 (S 19 b) = 1 := by rcases hon with q | q; exact absurd q hc; exact q
      obtain ⟨l0, lL, l4⟩ := AI_up h hu
      rw [if_neg hc] at hR
      simp only [if_neg hc] at ih
      have hTk := AI_lets (b := b) h hu k (by omega)
      have hEk := Ex.lets hE (by simp) (b := b) (l := S 19 b) k
      have so : ∀ r, r ≠ 22 → r ≠ 17 → r ≠ 34 → r ≠ 35 → r ≠ 41 → (r < 11 ∨ 15 ≤ r) → aLets S b (S 19 b) k r = S r := fun r a1 a2 a3 a4 a5 a6 => aLets_o S b _ a1 a2 a3 a4 a5 a6 l4 k
      have e61 : Mk 61 k = T 34 k := by rw [hR.e61, aLets_34 S b l4, if_neg (by omega), e34S]
      have e60 : Mk 60 = T 33 := by rw [hR.e60, so 33 (by decide) (by decide) (by decide) (by decide) (by decide) (by omega)]; exact e33S
      have e16 : Mk 47 16 = T 4 0 := by rw [hR.s16, so 4 (by decide) (by decide) (by decide) (by decide) (by decide) (by omega), e4]
      have e52 : Mk 52 b = S 19 b := by rw [hR.e52, so 19 (by decide) (by decide) (by decide) (by decide) (by decide) (by omega)]
      have step : aLets S b (S 19 b) (k + 1) = if aLets S b (S 19 b) k 34 k = 0 ∧ aLets S b (S 19 b) k 33 k = b then aEnqH (aLets S b (S 19 b) k) k (S 19 b) else aLets S b (S 19 b) k := rfl
      rw [step, so 33 (by decide) (by decide) (by decide) (by decide) (by decide) (by omega), show aLets S b (S 19 b) k 34 k = T 34 k by rw [aLets_34 S b l4, if_neg (by omega), e34S], e33S] at ih
      refine gV_in rfl (by unfold rng; omega) (by omega) ?_
      repeat (refine gV_s rfl (by first | exact trivial | omega) ?_)
      rw [e61]
      refine gV_i rfl (by unfold rng; omega) (fun h1 => ?_) (fun h1 => ?_)
      · repeat (refine gV_s rfl (by first | exact trivial | omega) ?_)
        rw [e60]
        refine gV_i rfl (by unfold rng; omega) (fun h2 => ?_) (fun h2 => ?_)
        · rw [if_pos ⟨h1, h2⟩, if_pos (by unfold hdC; simp [h1, h2])] at ih
          repeat (refine gV_s rfl (by first | exact trivial | omega) ?_)
          rw [e52]
          refine gV_in rfl (by unfold rng; omega) (by omega) ?_
          repeat (refine gV_s rfl (by first | exact trivial | omega) ?_)
          rw [e52]
          refine gV_cV (ok_queue (d := d) (P := fun r M' => r = none ∧ M' = mQueue Mk k (S 19 b)) (i := k) (by omega) (by omega) ⟨rfl, rfl⟩) mX7_queue_ok sX7_X7_queue rfl rfl rfl rfl rfl rfl ?_
          rintro r M' ⟨rfl, rfl⟩
          have hord : ∀ k', 0 ≤ k' → k' < 4 → 0 ≤ aLets S b (S 19 b) k 15 k' ∧ aLets S b (S 19 b) k 15 k' ≤ aLets S b (S 19 b) k 16 k' ∧ aLets S b (S 19 b) k 16 k' ≤ aLets S b (S 19 b) k 17 k' := by
            rw [hEk 15 (by decide), hEk 16 (by decide), hEk 17 (by decide)]
            exact AI_ord hTk
          have hlk : aLets T b (S 19 b) k 35 k = -6 := by
            have e34k : aLets T b (S 19 b) k 34 k = 0 := by rw [aLets_34 T b l4, if_neg (by omega)]; exact h1
            rcases hTk.2.2.2.2.2.2.2.2.2.2.2.2.1 k (by omega) (by rw [aLets_o T b _ (by decide) (by decide) (by decide) (by decide) (by decide) (by omega) l4 k]; omega) with q | q
            · exact q.1
            · omega
          have hrows : ∀ k' p, 0 ≤ k' → k' < 4 → 0 ≤ p → p < aLets S b (S 19 b) k 17 k' → qr (aLets S b (S 19 b) k) k' p ≠ k := by
            intro k' p a1 a2 a3 a4 e
            rw [hEk 17 (by decide)] at a4
            have eqr : qr (aLets S b (S 19 b) k) k' p = qr (aLets T b (S 19 b) k) k' p := by
              show aLets S b (S 19 b) k (11 + k'.toNat) p = aLets T b (S 19 b) k (11 + k'.toNat) p
              rw [hEk _ (by simp; omega)]
            rw [eqr] at e
            have := ((hTk.2.2.2.2.2.2.2.2.2.2.2.1 k' a1 a2).2.1 p a3 a4).1.2.2
            rw [show (qr (aLets T b (S 19 b) k)) k' p = k from e, hlk] at this
            omega
          have hR2 := (RM_enq hR l0 l4 hord hrows (by rw [aLets_34 S b l4, if_neg (by omega), e34S, h1]; decide)).enqH
          repeat (refine gV_s rfl (by first | exact trivial | omega) ?_)
          have e16' : mQueue Mk k (S 19 b) 47 16 = T 4 0 := by unfold mQueue; simp only [mw_rs, mw_rn, ne_eq, not_false_eq_true, Nat.reduceEqDiff, Nat.reduceLT, Nat.reduceLeDiff, true_or, or_true, forall_const]; rw [up1_n _ _ (by decide)]; exact e16
          rw [e16']
          refine ih _ ?_ ?_
          · have : B + (k : Int) + 1 = B + ((k + 1 : Nat) : Int) := by push_cast; omega
            rw [← this]
            exact hR2
          · exact Fr.w (Fr.w (Fr.w (Fr.w hF (by decide)) (by decide)) (by decide)) (by decide)
        · rw [if_neg (fun q => h2 q.2), if_neg (by unfold hdC; simp [h2]), Int.add_zero] at ih
          repeat (refine gV_s rfl (by first | exact trivial | omega) ?_)
          rw [e16]
          exact ih _ (RM_B hR (by push_cast; omega)) hF
      · rw [if_neg (fun q => h1 q.1), if_neg (by unfold hdC; simp [h1]), Int.add_zero] at ih
        repeat (refine gV_s rfl (by first | exact trivial | omega) ?_)
        rw [e16]
        exact ih _ (RM_B hR (by push_cast; omega)) hF
theorem ok_lets {d : Nat} {S T M : Mem} {lo : Int → Int} {x B b : Int} (h : AI T lo x) (hE : Ex [19, 20, 21, 23] S T) (b0 : 0 ≤ b) (b8 : b < 8) (hon : S 19 b = -6 ∨ T 9 (S 19 b) = 1) (hR : RM S M B) : gOk mX7_lets (d + 1) [vR 47, vI b] M (fun r M' => r = vI (T 22 b) ∧ RM (aLetsO S b) M' (B + 400) ∧ Fr M M') := by
  have h4 := h.1.2.2.1
  have e16 : M 47 16 = T 4 0 := by rw [hR.s16, hE 4 (by decide)]
  refine gOk_of mX7_lets_ok (by simp) (Nat.le_of_ble_eq_true rfl) ?_
  repeat (refine gV_s rfl (by first | exact trivial | omega) ?_)
  rw [e16]
  refine lets_loopM (d := d) (B := B) h hE b0 b8 hon (T 4 0).toNat 0 M (by omega) ?_ Fr.rf
  rw [show B + ((0 : Nat) : Int) = B by omega]
  split
  · exact hR
  · exact hR
/-- a release beside the reference's letting go -/
theorem rel_lets {S : Mem} {b : Int} : aRel S b = aLetsO (mw S 21 b 0) b := by
  unfold aRel aLetsO
  rw [mw_rn _ _ _ (by decide), mw_rn _ _ _ (by decide)]
theorem ok_settleM {d : Nat} {S M : Mem} {lo : Int → Int} {x B b : Int} (h : AI S lo x) (b0 : 0 ≤ b) (b8 : b < 8) (hR : RM S M B) (hB : B ≤ 2000000000) (hg0 : goal S b ≠ -6) (hg : S 9 (goal S b) = 1 ∧ S 19 b ≠ -6) :
    gOk mX7_settle (d + 2) [vR 47, vI b] M (fun r M' => r = vI (if may S b (goal S b) = true then 1 else 0) ∧ RM (aSettle S b) M' (B + 400) ∧ Fr M M') := by
  have hM := MR_of h hR hB
  obtain ⟨g1, g2⟩ := hg
  obtain ⟨l0, lL, l4⟩ := AI_up h g1
  have hbk := AI_bk h b
  have hJ := h.2.2.1 b
  have hA := AI_rch0 h b0 b8 g1 g2
  have e53 : M 53 b = S 20 b := by rw [hR.e53]
  have e52 : M 52 b = S 19 b := by rw [hR.e52]
  have fin : gV mX7_settle (d + 2) (fun r M' => r = vI (if may S b (goal S b) = true then 1 else 0) ∧ RM (aSettle S b) M' (B + 400) ∧ Fr M M') 25 [vR 47, vI b, vI (goal S b), none] [] M := by
    repeat (refine gV_s rfl (by first | exact trivial | omega) ?_)
    refine gV_cV (ok_canCome (d := d + 1) (b := b) (l := goal S b) hM (by unfold rng; omega) l0 l4) mX7_canCome_ok sX7_X7_canCome rfl rfl rfl rfl rfl rfl ?_
    rintro r M' ⟨rfl, ⟨h2, rfl⟩ | ⟨h2, rfl⟩⟩
    · have hm := (can_may h hR).mp h2
      have eS : aSettle S b = aLetsO (mw (aRch0 S b (goal S b)) 21 b 0) b := by
        unfold aSettle
        rw [if_pos ⟨hg0, hm⟩]
        unfold aReach
        rw [rel_lets]
      rw [if_pos hm, eS]
      have last : ∀ v : Int, v = (if S 20 b = -6 then 0 else 1) → gV mX7_settle (d + 2) (fun r M'' => r = vI 1 ∧ RM (aLetsO (mw (aRch0 S b (goal S b)) 21 b 0) b) M'' (B + 400) ∧ Fr M' M'') 57 [vR 47, vI b, vI (goal S b), none] [vI v, vI (M' 55 b), vI b, vR 55] M' := by
        intro v hv
        have hR1 : RM (mw (aRch0 S b (goal S b)) 21 b 0) (mw (mw (mw (mw M' 55 b (M' 55 b + v)) 52 b (goal S b)) 53 b (-6)) 54 b 0) B := by
          have c1 : mw (aRch0 S b (goal S b)) 21 b 0 = mw (mw (mw (if S 20 b = -6 then S else mw S 23 b (S 23 b + 1)) 19 b (goal S b)) 20 b (-6)) 21 b 0 := by
            unfold aRch0
            rw [mw_comm _ _ _ _ _ (show (20 : Nat) ≠ 19 by decide)]
          rw [c1]
          refine RM_w (RM_w (RM_w ?_ (by simp)) (by simp)) (by simp)
          by_cases e : S 20 b = -6
          · rw [if_pos e] at hv ⊢
            rw [hv, Int.add_zero, mw_id]
            exact hR
          · rw [if_neg e] at hv ⊢
            rw [hv, hR.e55]
            exact RM_w hR (by simp)
        have hE1 : Ex [19, 20, 21, 23] (mw (aRch0 S b (goal S b)) 21 b 0) (aRch0 S b (goal S b)) := Ex.skip1 Ex.rf (by decide)
        repeat (refine gV_s rfl (by first | exact trivial | omega) ?_)
        refine gV_cV (ok_lets (d := d) hA hE1 b0 b8 (Or.inr (by rw [mw_rn _ _ _ (by decide), aRch0_19, up1_s, aRch0_o _ _ _ (by decide) (by decide) (by decide)]; exact g1)) hR1) mX7_lets_ok sX7_X7_lets rfl rfl rfl rfl rfl rfl ?_
        rintro r M'' ⟨rfl, hR2, hF2⟩
        repeat (refine gV_s rfl (by first | exact trivial | omega) ?_)
        exact gV_ret rfl trivial ⟨rfl, hR2, Fr.tr (Fr.w (Fr.w (Fr.w (Fr.w Fr.rf (by decide)) (by decide)) (by decide)) (by decide)) hF2⟩
      refine gV_in rfl (by unfold rng; omega) (by omega) ?_
      repeat (refine gV_s rfl (by first | exact trivial | omega) ?_)
      rw [e53]
      refine gV_i rfl (by unfold rng; omega) (fun h3 => ?_) (fun h3 => ?_)
      · refine gV_s rfl trivial ?_
        exact last 0 (by rw [if_pos (by omega)])
      · refine gV_s rfl trivial (gV_s rfl trivial ?_)
        exact last 1 (by rw [if_neg (by omega)])
    · have hm : ¬ may S b (goal S b) = true := fun q => h2 ((can_may h hR).mpr q)
      have eS : aSettle S b = S := by unfold aSettle; rw [if_neg (fun q => hm q.2)]
      rw [if_neg hm, eS]
      refine gV_it rfl (by unfold rng; omega) rfl ?_
      repeat (refine gV_s rfl (by first | exact trivial | omega) ?_)
      exact gV_ret rfl trivial ⟨rfl, RM_B hR (by omega), Fr.rf⟩
  refine gOk_of mX7_settle_ok (by simp) (Nat.le_of_ble_eq_true rfl) ?_
  repeat (refine gV_s rfl (by first | exact trivial | omega) ?_)
  rw [e53]
  refine gV_i rfl (by unfold rng; omega) (fun h3 => ?_) (fun h3 => ?_)
  · have e : goal S b = S 19 b := by unfold goal; rw [if_pos (by omega)]
    rw [e] at fin ⊢
    refine gV_s rfl trivial (gV_s rfl trivial (gV_s rfl trivial (gV_s rfl ⟨b0, b8⟩ ?_)))
    rw [e52]
    refine gV_s rfl trivial ?_
    exact fin
  · have e : goal S b = S 20 b := by unfold goal; rw [if_neg (by omega)]
    rw [e] at fin ⊢
    refine gV_s rfl trivial (gV_s rfl trivial (gV_s rfl trivial (gV_s rfl ⟨b0, b8⟩ ?_)))
    rw [e53]
    refine gV_s rfl trivial (gV_s rfl trivial ?_)
    exact fin
end
section
/-! The reference: a tick. -/
theorem RM_sc {S M : Mem} {B v : Int} (hR : RM S M B) {rs : Nat} {i j : Int} (hp : (rs = 5 ∧ i = 0 ∧ j = 0) ∨ (rs = 5 ∧ i = 1 ∧ j = 15) ∨ (rs = 1 ∧ i = 0 ∧ j = 1) ∨ (rs = 3 ∧ i = 0 ∧ j = 10) ∨ (rs = 3 ∧ i = 1 ∧ j = 13) ∨ (rs = 3 ∧ i = 2 ∧ j = 14) ∨ (rs = 6 ∧ i = 0 ∧ j = 31) ∨ (rs = 4 ∧ i = 0 ∧ j = 16)) : RM (mw S rs i v) (mw M 47 j v) B := by
  obtain ⟨⟨e48, e49, e50, e51, e52, e53, e54, e55, e56, e57, e58, e59, e60, e61, e62, e63, e64, e65, e66, e69, e70⟩, ⟨t1, t2, t3, t4, t5, t6, t7, t8, t9⟩, hT⟩ := hR
  rcases hp with ⟨rfl, rfl, rfl⟩ | ⟨rfl, rfl, rfl⟩ | ⟨rfl, rfl, rfl⟩ | ⟨rfl, rfl, rfl⟩ | ⟨rfl, rfl, rfl⟩ | ⟨rfl, rfl, rfl⟩ | ⟨rfl, rfl, rfl⟩ | ⟨rfl, rfl, rfl⟩
  all_goals
    refine ⟨?_, ?_, ?_⟩
    · unfold Rr
      simp only [mw_rn, ne_eq, not_false_eq_true, Nat.reduceEqDiff, Nat.reduceLT, Nat.reduceLeDiff, true_or, or_true, forall_const]
      simp only [e48, e49, e50, e51, e52, e53, e54, e55, e56, e57, e58, e59, e60, e61, e62, e63, e64, e65, e66, e69, e70, and_self]
    · unfold Rs
      simp only [mw_rs, mw_rn, ne_eq, not_false_eq_true, Nat.reduceEqDiff, Nat.reduceLT, Nat.reduceLeDiff, true_or, or_true, forall_const, up1_e]
      simp [t1, t2, t3, t4, t5, t6, t7, t8, t9]
    · simp only [mw_rs, mw_rn, ne_eq, not_false_eq_true, Nat.reduceEqDiff, Nat.reduceLT, Nat.reduceLeDiff, true_or, or_true, forall_const]
      rw [up1_n _ _ (by decide)]
      exact Rt_rw hT (fun k p k0 k4 => mwq (by omega) _ _ k0 k4)
theorem fst_q {S M : Mem} {lo : Int → Int} {x B l r : Int} (h : AI S lo x) (hR : RM S M B) (l0 : 0 ≤ l) (l4 : l < 4) (hf : fstQ M l (M 47 16) r) : (S 17 l ≤ S 16 l ∧ r = -6) ∨ (S 16 l < S 17 l ∧ r = qr S l (S 16 l) ∧ 0 ≤ r ∧ r < S 4 0) := by
  have hq := h.2.2.2.2.2.2.2.2.2.2.2.1 l l0 l4
  have e16 := hR.s16
  have hfst : S 16 l < S 17 l → isQ M l (qr S l (S 16 l)) ∧ 0 ≤ qr S l (S 16 l) ∧ qr S l (S 16 l) < S 4 0 := fun hlt => by
    obtain ⟨g1, -, -, g4⟩ := hq.2.1 (S 16 l) (by omega) hlt
    refine ⟨⟨?_, ?_⟩, g1.1, g1.2.1⟩
    · rw [hR.e61]; exact g4 (Int.le_refl _)
    · rw [hR.e62]; exact g1.2.2
  rcases hf with ⟨a1, a2⟩ | ⟨a1, a2, a3, a4⟩
  · left
    refine ⟨?_, a1⟩
    by_cases c : S 17 l ≤ S 16 l
    · exact c
    · obtain ⟨b1, b2, b3⟩ := hfst (by omega)
      exact absurd b1 (a2 _ b2 (by omega))
  · right
    obtain ⟨c1, c2⟩ := a3
    rw [hR.e61] at c1
    rw [hR.e62] at c2
    obtain ⟨d1, d2⟩ := first_q h hR l0 l4 r a1 (by omega) c1 c2
    obtain ⟨b1, b2, b3⟩ := hfst d1
    refine ⟨d1, ?_, a1, by omega⟩
    rcases d2 with d2 | d2
    · exact d2
    · have := a4 _ b2 (by omega) b1
      omega
theorem fst_a {S M : Mem} {lo : Int → Int} {x B l r : Int} (h : AI S lo x) (hR : RM S M B) (l0 : 0 ≤ l) (l4 : l < 4) (hlo : lo l = S 5 0 - 1) (hf : fstA M l (M 47 16) r) : (¬ (S 15 l < S 16 l ∧ S 38 (qr S l (S 15 l)) = S 5 0) ∧ r = -6) ∨ ((S 15 l < S 16 l ∧ S 38 (qr S l (S 15 l)) = S 5 0) ∧ r = qr S l (S 15 l) ∧ 0 ≤ r ∧ r < S 4 0 ∧ S 34 r = 2) := by
  have hq := h.2.2.2.2.2.2.2.2.2.2.2.1 l l0 l4
  have e16 := hR.s16
  have hfst : (S 15 l < S 16 l ∧ S 38 (qr S l (S 15 l)) = S 5 0) → isA M l (qr S l (S 15 l)) ∧ 0 ≤ qr S l (S 15 l) ∧ qr S l (S 15 l) < S 4 0 := fun hlt => by
    obtain ⟨g1, -, g3, -⟩ := hq.2.1 (S 15 l) (by omega) (by omega)
    refine ⟨⟨?_, ?_, ?_⟩, g1.1, g1.2.1⟩
    · rw [hR.e61]; exact (g3 (Int.le_refl _) hlt.1).1
    · rw [hR.e62]; exact g1.2.2
    · rw [hR.e65, hR.s0]; exact hlt.2
  rcases hf with ⟨a1, a2⟩ | ⟨a1, a2, a3, a4⟩
  · left
    refine ⟨fun c => ?_, a1⟩
    obtain ⟨b1, b2, b3⟩ := hfst c
    exact absurd b1 (a2 _ b2 (by omega))
  · right
    obtain ⟨c1, c2, c3⟩ := a3
    rw [hR.e61] at c1
    rw [hR.e62] at c2
    rw [hR.e65, hR.s0] at c3
    obtain ⟨d1, d2⟩ := first_a h hR l0 l4 hlo r a1 (by omega) c1 c2 c3
    obtain ⟨b1, b2, b3⟩ := hfst d1
    refine ⟨d1, ?_, a1, by omega, c1⟩
    rcases d2 with d2 | d2
    · exact d2
    · have := a4 _ b2 (by omega) b1
      omega
theorem lv_in {d : Nat} {T M0 : Mem} {lo : Int → Int} {x B l : Int} {P : PV → Mem → Prop} (h : AI T lo x) (hu : T 9 l = 1) (hlo : lo l < T 5 0) (hB : B + 8 ≤ 2000000000)
    (kk : ∀ (M' : Mem) (r j : Int), RM (aLvK T l (lvN T l)) M' (B + 8) → Fr M0 M' → gV mX7_tick1 (d + 3) P 127 [vR 47, vI l, vI r, vI j] [] M') :
    ∀ (n j : Nat) (M : Mem) (r : Int), j + n = lvN T l → RM (aLvK T l j) M (B + j) → Fr M0 M → fstQ M l (M 47 16) r → gV mX7_tick1 (d + 3) P 35 [vR 47, vI l, vI r, vI j] [vI (T 7 l), vI j] M := by
  obtain ⟨l0, lL, l4⟩ := AI_up h hu
  have hsp := h.2.1.2.2 l
  have h4 := h.1.2.2.1
  have hN := lvN_le h l0 l4
  have hN2 : ((lvN T l : Nat) : Int) = T 7 l ∨ ((lvN T l : Nat) : Int) = T 17 l - T 16 l := by unfold lvN; have := AI_ord h l l0 l4; split <;> omega
  have hN3 : ((lvN T l : Nat) : Int) ≤ T 7 l := by unfold lvN; have := AI_ord h l l0 l4; split <;> omega
  intro n
  induction n with
  | zero =>
    intro j M r hj hR hF hf
    have e : j = lvN T l := by omega
    subst e
    have hA := AI_lvK h hu (by omega) (lvN T l) hN
    have h1 := fst_q hA hR l0 l4 hf
    rw [aLvK_16, up1_s, aLvK_o T l (by decide) (by decide) (by decide) (by decide) (by decide) (by decide), aLvK_o T l (by decide) (by decide) (by decide) (by decide) (by decide) (by decide)] at h1
    have e50 : M 50 l = 1 := by rw [hR.e50, aLvK_o T l (by decide) (by decide) (by decide) (by decide) (by decide) (by decide)]; exact hu
    have fin := fun r j => kk M r j (RM_B hR (by omega)) hF
    refine gV_i rfl (by unfold rng; omega) (fun h2 => fin _ _) (fun h2 => ?_)
    have hr : r = -6 := by
      rcases h1 with q | q
      · exact q.2
      · omega
    subst hr
    repeat (refine gV_s rfl (by first | exact trivial | omega) ?_)
    rw [e50]
    refine gV_in rfl (by unfold rng; omega) (by omega) ?_
    repeat (refine gV_s rfl (by first | exact trivial | omega) ?_)
    exact gV_it rfl (by unfold rng; omega) (by omega) (fin _ _)
  | succ n ih =>
    intro j M r hj hR hF hf
    have hA := AI_lvK h hu (by omega) j (by omega)
    have h1 := fst_q hA hR l0 l4 hf
    have eo : ∀ r, r ≠ 37 → r ≠ 38 → r ≠ 34 → r ≠ 41 → r ≠ 16 → r ≠ 18 → aLvK T l j r = T r := fun r a1 a2 a3 a4 a5 a6 => aLvK_o T l a1 a2 a3 a4 a5 a6 j
    have eq16 : aLvK T l j 16 l = T 16 l + j := by rw [aLvK_16, up1_s]
    have e17 : aLvK T l j 17 = T 17 := eo 17 (by decide) (by decide) (by decide) (by decide) (by decide) (by decide)
    have e4 : aLvK T l j 4 = T 4 := eo 4 (by decide) (by decide) (by decide) (by decide) (by decide) (by decide)
    have e9 : aLvK T l j 9 = T 9 := eo 9 (by decide) (by decide) (by decide) (by decide) (by decide) (by decide)
    have e7 : aLvK T l j 7 = T 7 := eo 7 (by decide) (by decide) (by decide) (by decide) (by decide) (by decide)
    have e50 : M 50 l = 1 := by rw [hR.e50, e9]; exact hu
    have hlt : aLvK T l j 16 l < aLvK T l j 17 l := by rw [eq16, e17]; omega
    obtain ⟨b1, b2, b3, b4⟩ : aLvK T l j 16 l < aLvK T l j 17 l ∧ r = qr (aLvK T l j) l (aLvK T l j 16 l) ∧ 0 ≤ r ∧ r < aLvK T l j 4 0 := by
      rcases h1 with q | q
      · omega
      · exact q
    rw [e4] at b4
    have hR2 := RM_leave1 hA hR (by rw [e9]; exact hu) hlt
    rw [← b2] at hR2
    have hA2 := AI_lvK h hu (by omega) (j + 1) (by push_cast; omega)
    have hM2 := MR_of hA2 hR2 (by omega)
    have hMM := MR_of hA hR (by omega)
    have hst := hMM.2.2.2.2.2.2.2.2.2.2.2.2.2.2
    refine gV_in rfl (by unfold rng; omega) (by omega) ?_
    repeat (refine gV_s rfl (by first | exact trivial | omega) ?_)
    rw [e50]
    refine gV_in rfl (by unfold rng; omega) (by omega) ?_
    repeat (refine gV_s rfl (by first | exact trivial | omega) ?_)
    refine gV_in rfl (by unfold rng; omega) (by omega) ?_
    repeat (refine gV_s rfl (by first | exact trivial | omega) ?_)
    refine gV_cV (ok_firstQueued (d := d + 2) (M := mLeave1 M r l) (l := l) hM2 (by unfold rng; omega)) mX7_firstQueued_ok sX7_X7_firstQueued rfl rfl rfl rfl rfl rfl ?_
    rintro v M' ⟨rfl, r', rfl, hf'⟩
    have e48 : mLeave1 M r l 48 l = T 7 l := by rw [hR2.e48, aLeave1_o _ _ (by decide) (by decide) (by decide) (by decide) (by decide) (by decide), e7]
    repeat (refine gV_s rfl (by first | exact trivial | omega) ?_)
    rw [e48]
    refine ih (j + 1) _ r' (by omega) ?_ ?_ hf'
    · rw [show B + ((j + 1 : Nat) : Int) = B + j + 1 by push_cast; omega]
      exact hR2
    · exact Fr.w (Fr.w (Fr.w (Fr.w (Fr.w (Fr.w hF (by decide)) (by decide)) (by decide)) (by decide)) (by decide)) (by decide)
theorem lv_out {d : Nat} {S M0 : Mem} {lo : Int → Int} {x B : Int} {P : PV → Mem → Prop} (h : AI S lo x) (hlo : ∀ l, lo l < S 5 0) (hB : B + 32 ≤ 2000000000)
    (kk : ∀ (M' : Mem) (z1 : Int) (z2 z3 : PV), RM (aLvs S (S 1 0).toNat) M' (B + 32) → Fr M0 M' → gV mX7_tick1 (d + 3) P 133 [vR 47, vI z1, z2, z3] [] M') :
    ∀ (n k : Nat) (M : Mem) (z2 z3 : PV), (k : Int) + n = S 1 0 → RM (aLvs S k) M (B + 8 * k) → Fr M0 M → gV mX7_tick1 (d + 3) P 17 [vR 47, vI k, z2, z3] [vI (S 1 0), vI k] M := by
  have hL := h.1.1
  intro n
  induction n with
  | zero =>
    intro k M z2 z3 hk hR hF
    have e : k = (S 1 0).toNat := by omega
    subst e
    exact gV_it rfl (by unfold rng; omega) (by omega) (kk M _ _ _ (RM_B hR (by omega)) hF)
  | succ n ih =>
    intro k M z2 z3 hk hR hF
    have hA := AI_lvs h hlo k
    have eo : ∀ r, r ≠ 37 → r ≠ 38 → r ≠ 34 → r ≠ 41 → r ≠ 16 → r ≠ 18 → aLvs S k r = S r := fun r a1 a2 a3 a4 a5 a6 => aLvs_o S a1 a2 a3 a4 a5 a6 k
    have hMM := MR_of hA hR (by omega)
    have e48 : M 48 k = aLvs S k 7 k := by rw [hR.e48]
    have e50 : M 50 k = aLvs S k 9 k := by rw [hR.e50]
    have hsp := hA.2.1.2.2 k
    have nxt : ∀ (M' : Mem) (r j : Int), RM (aLvs S (k + 1)) M' (B + 8 * k + 8) → Fr M0 M' → gV mX7_tick1 (d + 3) P 127 [vR 47, vI k, vI r, vI j] [] M' := by
      intro M' r j hR' hF'
      repeat (refine gV_s rfl (by first | exact trivial | omega) ?_)
      have e1 : M' 47 1 = S 1 0 := by rw [hR'.s1, aLvs_o S (by decide) (by decide) (by decide) (by decide) (by decide) (by decide)]
      rw [e1]
      exact ih (k + 1) M' _ _ (by push_cast; omega) (by rw [show B + 8 * ((k + 1 : Nat) : Int) = B + 8 * k + 8 by push_cast; omega]; exact hR') hF'
    have step : aLvs S (k + 1) = if aLvs S k 9 k = 0 then aLvs S k else aLvK (aLvs S k) k (lvN (aLvs S k) k) := rfl
    rw [step] at nxt
    refine gV_in rfl (by unfold rng; omega) (by omega) ?_
    repeat (refine gV_s rfl (by first | exact trivial | omega) ?_)
    refine gV_cV (ok_firstQueued (d := d + 2) (M := M) (l := k) hMM (by unfold rng; omega)) mX7_firstQueued_ok sX7_X7_firstQueued rfl rfl rfl rfl rfl rfl ?_
    rintro v M' ⟨rfl, r', rfl, hf'⟩
    repeat (refine gV_s rfl (by first | exact trivial | omega) ?_)
    rw [e48]
    by_cases hu : aLvs S k 9 k = 0
    · rw [if_pos hu] at nxt
      have fin := fun r j => nxt M' r j (RM_B hR (by omega)) hF
      refine gV_i rfl (by unfold rng; omega) (fun h2 => fin _ _) (fun h2 => ?_)
      repeat (refine gV_s rfl (by first | exact trivial | omega) ?_)
      rw [e50, hu]
      exact gV_it rfl (by unfold rng; omega) rfl (fin _ _)
    · rw [if_neg hu] at nxt
      have hu1 : aLvs S k 9 k = 1 := by
        rcases hA.2.1.2.1 k with q | q
        · exact absurd q hu
        · exact q.1
      have := lv_in (d := d) (B := B + 8 * k) (M0 := M0) hA hu1 (by rw [eo 5 (by decide) (by decide) (by decide) (by decide) (by decide) (by decide)]; exact hlo _) (by omega) nxt (lvN (aLvs S k) k) 0 M' r' (by omega) (RM_B hR (by omega)) hF hf'
      exact this
end
section
/-! The reference: arriving, coming out, settling; a tick; ticks. -/
theorem ar_in {d : Nat} {M0 : Mem} {lo : Int → Int} {x B l : Int} {z : PV} {P : PV → Mem → Prop} (l0 : 0 ≤ l) (l4 : l < 4) (hB : B ≤ 2000000000) : ∀ (n : Nat) (U : Mem)
    (_ : ∀ (M' : Mem) (r : Int), RM (aArF l n U) M' B → Fr M0 M' → gV mX7_tick1 (d + 3) P 184 [vR 47, vI l, vI r, z] [] M')
    (M : Mem) (r : Int), AI U lo x → lo l = U 5 0 - 1 → n = (U 16 l - U 15 l).toNat → RM U M B → Fr M0 M → fstA M l (M 47 16) r → gV mX7_tick1 (d + 3) P 150 [vR 47, vI l, vI r, z] [vI r] M := by
  intro n
  induction n with
  | zero =>
    intro U kk M r hA hlo hn hR hF hf
    have h1 := fst_a hA hR l0 l4 hlo hf
    have hr : r = -6 := by
      rcases h1 with q | q
      · exact q.2
      · omega
    subst hr
    exact gV_it rfl (by unfold rng; omega) (by omega) (kk M _ hR hF)
  | succ n ih =>
    intro U kk M r hA hlo hn hR hF hf
    have h1 := fst_a hA hR l0 l4 hlo hf
    have h4 := hA.1.2.2.1
    have h5 := hA.1.2.2.2.2.1
    have e15 : M 47 15 = U 5 1 := hR.s15
    have step : aArF l (n + 1) U = if U 15 l < U 16 l ∧ U 38 (qr U l (U 15 l)) = U 5 0 then aArF l n (aArr1 U l) else U := rfl
    rw [step] at kk
    rcases h1 with ⟨c, rfl⟩ | ⟨c, hr, r0, r1, r2⟩
    · rw [if_neg c] at kk
      exact gV_it rfl (by unfold rng; omega) (by omega) (kk M _ hR hF)
    · rw [if_pos c] at kk
      have hA2 := AI_arr1 hA l0 l4 c.1
      have e16 : aArr1 U l 16 = U 16 := aArr1_o _ _ (by decide) (by decide) (by decide) (by decide) (by decide) (by decide) (by decide) (by decide)
      have eU5 : aArr1 U l 5 = U 5 := aArr1_o _ _ (by decide) (by decide) (by decide) (by decide) (by decide) (by decide) (by decide) (by decide)
      have ih2 := fun M' r' => ih (aArr1 U l) kk M' r' hA2 (by rw [eU5]; exact hlo) (by rw [e16, aArr1_15, up1_s]; omega)
      have rest : ∀ M' : Mem, RM (aArr1 U l) M' B → Fr M0 M' → gV mX7_tick1 (d + 3) P 175 [vR 47, vI l, vI r, z] [] M' := by
        intro M' hR' hF'
        have hMM := MR_of hA2 hR' hB
        repeat (refine gV_s rfl (by first | exact trivial | omega) ?_)
        refine gV_cV (ok_firstArriving (d := d + 2) (M := M') (l := l) hMM (by unfold rng; omega)) mX7_firstArriving_ok sX7_X7_firstArriving rfl rfl rfl rfl rfl rfl ?_
        rintro v M'' ⟨rfl, r', rfl, hf'⟩
        repeat (refine gV_s rfl (by first | exact trivial | omega) ?_)
        exact ih2 M'' r' hR' hF' hf'
      refine gV_in rfl (by unfold rng; omega) (by omega) ?_
      repeat (refine gV_s rfl (by first | exact trivial | omega) ?_)
      rw [e15]
      have hs4 : U 34 (qr U l (U 15 l)) ≠ 4 := by rw [← hr, r2]; decide
      refine gV_i rfl (by unfold rng; omega) (fun hn0 => ?_) (fun hn0 => ?_)
      · have hR2 := RM_arrOut hA hR hn0 hs4
        rw [← hr] at hR2
        obtain ⟨q1, q2, q3, -⟩ := AI_letOut hA r0 r1 (by rw [r2]; decide)
        repeat (refine gV_s rfl (by first | exact trivial | omega) ?_)
        refine gV_cV (ok_comesOut (d := d + 2) (M := M) (i := r) (P := fun v M' => v = none ∧ M' = mOut M r) r0 q1 (by rw [hR.s29]; exact q2) (by rw [hR.s29]; exact q3) ⟨rfl, rfl⟩) mX7_comesOut_ok sX7_X7_comesOut rfl rfl rfl rfl rfl rfl ?_
        rintro v M' ⟨rfl, rfl⟩
        exact rest _ hR2 (Fr.w (Fr.w (Fr.w (Fr.w hF (by decide)) (by decide)) (by decide)) (by decide))
      · have hR2 := RM_arrWait hR hn0 hs4
        rw [← hr] at hR2
        refine gV_s rfl trivial (gV_s rfl trivial (gV_s rfl trivial (gV_s rfl trivial (gV_s rfl (by omega) (gV_s rfl trivial ?_)))))
        exact rest _ hR2 (Fr.w hF (by decide))
theorem ar_out {d : Nat} {S M0 : Mem} {x B : Int} {z : PV} {P : PV → Mem → Prop} (h : AI S (fun _ => S 5 0 - 1) x) (hB : B ≤ 2000000000)
    (kk : ∀ (M' : Mem) (z1 : Int) (z2 : PV), RM (aArs S (S 1 0).toNat) M' B → Fr M0 M' → gV mX7_tick1 (d + 3) P 190 [vR 47, vI z1, z2, z] [] M') :
    ∀ (n k : Nat) (M : Mem) (z2 : PV), (k : Int) + n = S 1 0 → RM (aArs S k) M B → Fr M0 M → gV mX7_tick1 (d + 3) P 140 [vR 47, vI k, z2, z] [vI (S 1 0), vI k] M := by
  have hL := h.1.1
  intro n
  induction n with
  | zero =>
    intro k M z2 hk hR hF
    have e : k = (S 1 0).toNat := by omega
    subst e
    exact gV_it rfl (by unfold rng; omega) (by omega) (kk M _ _ hR hF)
  | succ n ih =>
    intro k M z2 hk hR hF
    have hA := AI_ars h k (by omega)
    have e5 : aArs S k 5 = S 5 := aArs_o S (by decide) (by decide) (by decide) (by decide) (by decide) (by decide) (by decide) (by decide) k
    have hMM := MR_of hA hR (by omega)
    refine gV_in rfl (by unfold rng; omega) (by omega) ?_
    repeat (refine gV_s rfl (by first | exact trivial | omega) ?_)
    refine gV_cV (ok_firstArriving (d := d + 2) (M := M) (l := k) hMM (by unfold rng; omega)) mX7_firstArriving_ok sX7_X7_firstArriving rfl rfl rfl rfl rfl rfl ?_
    rintro v M' ⟨rfl, r', rfl, hf'⟩
    refine gV_s rfl trivial (gV_s rfl trivial ?_)
    refine ar_in (d := d) (l := (k : Int)) (B := B) (M0 := M0) (by omega) (by omega) hB (aArs S k 16 k - aArs S k 15 k).toNat (aArs S k) (fun M2 r2 hR2 hF2 => ?_) M' r' hA (by rw [e5]; simp) rfl hR hF hf'
    have step : aArs S (k + 1) = aArF k (aArs S k 16 k - aArs S k 15 k).toNat (aArs S k) := rfl
    rw [← step] at hR2
    repeat (refine gV_s rfl (by first | exact trivial | omega) ?_)
    have e1 : M2 47 1 = S 1 0 := by rw [hR2.s1, aArs_o S (by decide) (by decide) (by decide) (by decide) (by decide) (by decide) (by decide) (by decide)]
    rw [e1]
    exact ih (k + 1) M2 _ (by push_cast; omega) hR2 hF2
/-! out -/
theorem out_inv {S : Mem} {lo : Int → Int} {x : Int} (h : AI S lo x) (h42 : ∀ f, 0 ≤ f → f < 16 → S 42 f = 0) : ∀ k : Nat, (k : Int) ≤ S 4 0 → ∀ f, 0 ≤ f → f < 16 → (aOutC S k 42 f = 0 ↔ ∀ j : Int, 0 ≤ j → j < k → S 31 j ≠ f ∨ 4 ≤ aOutC S k 34 j)
  | 0, _, f, f0, f1 => by
    constructor
    · intro _ j a b; omega
    · intro _; exact h42 f f0 f1
  | k + 1, hk, f, f0, f1 => by
    have ih := out_inv h h42 k (by omega) f f0 f1
    have hA := AI_outC h k (by omega)
    have hst := (hA.2.2.2.2.2.2.1 k).2.2.2.1
    have e31 : aOutC S k 31 = S 31 := aOutC_o S (by decide) (by decide) (by decide) (by decide) (by decide) (by decide) (by decide) (by decide) k
    unfold aOutC
    dsimp only
    rw [e31]
    split
    · rename_i hc
      rw [aLetOut_o _ _ (by decide) (by decide) (by decide) (by decide) (by decide) (by decide) (by decide), aLetOut_34, ih]
      constructor
      · intro q j a b
        by_cases e : j = k
        · right; rw [e, up1_s]; decide
        · rw [up1_n _ _ e]; exact q j a (by omega)
      · intro q j a b
        have := q j a (by omega)
        rw [up1_n _ _ (by omega)] at this
        exact this
    · split
      · rename_i hc1 hc2
        rw [mw_rs, mw_rn _ _ _ (by decide)]
        by_cases e : f = S 31 k
        · subst e
          rw [up1_s]
          constructor
          · intro q; omega
          · intro q
            rcases q k (by omega) (by omega) with q | q
            · exact absurd rfl q
            · omega
        · rw [up1_n _ _ e, ih]
          constructor
          · intro q j a b
            by_cases e2 : j = k
            · left; rw [e2]; exact fun q => e q.symm
            · exact q j a (by omega)
          · intro q j a b
            exact q j a (by omega)
      · rename_i hc1 hc2
        rw [ih]
        constructor
        · intro q j a b
          by_cases e2 : j = k
          · right; rw [e2]; omega
          · exact q j a (by omega)
        · intro q j a b
          exact q j a (by omega)
theorem out_loopM {d : Nat} {S M0 : Mem} {lo : Int → Int} {x B : Int} {z2 z3 : PV} {P : PV → Mem → Prop} (h : AI S lo x) (h42 : ∀ f, 0 ≤ f → f < 16 → S 42 f = 0) (hB : B ≤ 2000000000)
    (kk : ∀ (M' : Mem) (z1 : Int), RM (aOutC S (S 4 0).toNat) M' B → Fr M0 M' → gV mX7_tick1 (d + 3) P 229 [vR 47, vI z1, z2, z3] [] M') :
    ∀ (n k : Nat) (M : Mem), (k : Int) + n = S 4 0 → RM (aOutC S k) M B → Fr M0 M → gV mX7_tick1 (d + 3) P 197 [vR 47, vI k, z2, z3] [vI (S 4 0), vI k] M := by
  have h4 := h.1.2.2.1
  intro n
  induction n with
  | zero =>
    intro k M hk hR hF
    have e : k = (S 4 0).toNat := by omega
    subst e
    exact gV_it rfl (by unfold rng; omega) (by omega) (kk M _ hR hF)
  | succ n ih =>
    intro k M hk hR hF
    have hA := AI_outC h k (by omega)
    have hT := hA.2.2.2.2.2.2.1 k
    have hMM := MR_of hA hR (by omega)
    have e31 : aOutC S k 31 = S 31 := aOutC_o S (by decide) (by decide) (by decide) (by decide) (by decide) (by decide) (by decide) (by decide) k
    have e4 : aOutC S k 4 = S 4 := aOutC_o S (by decide) (by decide) (by decide) (by decide) (by decide) (by decide) (by decide) (by decide) k
    have inv := out_inv h h42 k (by omega) (aOutC S k 31 k) hT.1.1 hT.1.2.1
    rw [← e31] at inv
    have e61 : M 61 k = aOutC S k 34 k := by rw [hR.e61]
    have step : aOutC S (k + 1) = if aOutC S k 34 k = 3 ∧ aOutC S k 42 (aOutC S k 31 k) = 0 then aLetOut (aOutC S k) k else if aOutC S k 34 k ≠ 4 ∧ aOutC S k 34 k ≠ 5 then mw (aOutC S k) 42 (aOutC S k 31 k) 1 else aOutC S k := rfl
    have nxt : ∀ M' : Mem, RM (aOutC S (k + 1)) M' B → Fr M0 M' → gV mX7_tick1 (d + 3) P 223 [vR 47, vI k, z2, z3] [] M' := by
      intro M' hR' hF'
      repeat (refine gV_s rfl (by first | exact trivial | omega) ?_)
      have e16 : M' 47 16 = S 4 0 := by rw [hR'.s16, aOutC_o S (by decide) (by decide) (by decide) (by decide) (by decide) (by decide) (by decide) (by decide)]
      rw [e16]
      exact ih (k + 1) M' (by push_cast; omega) hR' hF'
    have stay : ¬ (aOutC S k 34 k = 3 ∧ aOutC S k 42 (aOutC S k 31 k) = 0) → gV mX7_tick1 (d + 3) P 223 [vR 47, vI k, z2, z3] [] M := by
      intro hc
      refine nxt M ?_ hF
      rw [step, if_neg hc]
      split
      · exact RM_S hR (fun r hr => mw_rn _ _ _ (by rintro rfl; cases hr))
      · exact hR
    refine gV_in rfl (by unfold rng; omega) (by omega) ?_
    repeat (refine gV_s rfl (by first | exact trivial | omega) ?_)
    rw [e61]
    refine gV_i rfl (by unfold rng; omega) (fun h1 => ?_) (fun h1 => ?_)
    · repeat (refine gV_s rfl (by first | exact trivial | omega) ?_)
      refine gV_cV (ok_isNext (d := d + 2) (M := M) (i := k) hMM (by omega) (by omega)) mX7_isNext_ok sX7_X7_isNext rfl rfl rfl rfl rfl rfl ?_
      rintro r M' ⟨rfl, ⟨h2, rfl⟩ | ⟨h2, rfl⟩⟩
      · have hb : aOutC S k 42 (aOutC S k 31 k) = 0 := by
          rw [inv]
          intro j a b
          have := h2 j a b
          rw [hR.e58, hR.e61] at this
          exact this
        refine gV_in rfl (by unfold rng; omega) (by omega) ?_
        obtain ⟨q1, q2, q3, -⟩ := AI_letOut hA (i := k) (by omega) (by rw [e4]; omega) (by rw [h1]; decide)
        repeat (refine gV_s rfl (by first | exact trivial | omega) ?_)
        refine gV_cV (ok_comesOut (d := d + 2) (M := M') (i := k) (P := fun v M2 => v = none ∧ M2 = mOut M' k) (by omega) q1 (by rw [hR.s29]; exact q2) (by rw [hR.s29]; exact q3) ⟨rfl, rfl⟩) mX7_comesOut_ok sX7_X7_comesOut rfl rfl rfl rfl rfl rfl ?_
        rintro v M2 ⟨rfl, rfl⟩
        refine nxt _ ?_ (Fr.w (Fr.w (Fr.w (Fr.w hF (by decide)) (by decide)) (by decide)) (by decide))
        rw [step, if_pos ⟨h1, hb⟩]
        exact RM_out hA hR (by rw [h1]; decide)
      · refine gV_it rfl (by unfold rng; omega) rfl ?_
        refine stay (fun q => h2 ?_)
        intro j a b
        rw [hR.e58, hR.e61]
        exact inv.mp q.2 j a b
    · exact stay (fun q => h1 q.1)
theorem out_idle {d : Nat} {S M : Mem} {z2 z3 : PV} {lo : Int → Int} {x B : Int} {P : PV → Mem → Prop} (h : AI S lo x) (h3 : ¬ 0 < S 41 3) (hR : RM S M B)
    (kk : ∀ (z1 : Int), gV mX7_tick1 (d + 3) P 229 [vR 47, vI z1, z2, z3] [] M) :
    ∀ (n k : Nat), (k : Int) + n = S 4 0 → gV mX7_tick1 (d + 3) P 197 [vR 47, vI k, z2, z3] [vI (S 4 0), vI k] M := by
  have h4 := h.1.2.2.1
  have k3 := h.2.2.2.2.2.2.2.1 3 (by decide) (by decide)
  have n3 := ct_nn (fun j => decide (S 34 j = 3)) (S 4 0).toNat
  have hz := ct_zero (p := fun j => decide (S 34 j = 3)) (n := (S 4 0).toNat) (by omega)
  intro n
  induction n with
  | zero =>
    intro k hk
    exact gV_it rfl (by unfold rng; omega) (by omega) (kk _)
  | succ n ih =>
    intro k hk
    have hT := h.2.2.2.2.2.2.1 k
    have e61 : M 61 k = S 34 k := by rw [hR.e61]
    have hne := hz k (by omega) (by omega)
    simp only [decide_eq_false_iff_not] at hne
    refine gV_in rfl (by unfold rng; omega) (by omega) ?_
    repeat (refine gV_s rfl (by first | exact trivial | omega) ?_)
    rw [e61]
    refine gV_in rfl (by unfold rng; omega) hne ?_
    repeat (refine gV_s rfl (by first | exact trivial | omega) ?_)
    rw [hR.s16]
    exact ih (k + 1) (by push_cast; omega)
theorem set_loopM {d : Nat} {S M0 : Mem} {lo : Int → Int} {B : Int} {z2 z3 : PV} {P : PV → Mem → Prop} (h : AI S lo (-1)) (hB : B + 3200 ≤ 2000000000)
    (hP : ∀ M', RM (aSets S 8) M' (B + 3200) → Fr M0 M' → P none M') : ∀ (n k : Nat) (M : Mem), k + n = 8 → RM (aSets S k) M (B + 400 * k) → Fr M0 M → gV mX7_tick1 (d + 3) P 234 [vR 47, vI k, z2, z3] [vI 8, vI k] M := by
  intro n
  induction n with
  | zero =>
    intro k M hk hR hF
    have e : k = 8 := by omega
    subst e
    refine gV_it rfl (by unfold rng; omega) (by omega) ?_
    exact gV_retv rfl trivial (hP M (RM_B hR (by omega)) hF)
  | succ n ih =>
    intro k M hk hR hF
    have hA := AI_sets h k (by omega)
    have hbk := AI_bk hA k
    have hb := hA.2.2.1 k
    have e53 : M 53 k = aSets S k 20 k := by rw [hR.e53]
    have e54 : M 54 k = aSets S k 21 k := by rw [hR.e54]
    have step : aSets S (k + 1) = if aSets S k 20 k ≠ -6 ∨ aSets S k 21 k ≠ 0 then aSettle (aSets S k) k else aSets S k := rfl
    have nxt : ∀ M' : Mem, RM (aSets S (k + 1)) M' (B + 400 * k + 400) → Fr M0 M' → gV mX7_tick1 (d + 3) P 261 [vR 47, vI k, z2, z3] [] M' := by
      intro M' hR' hF'
      repeat (refine gV_s rfl (by first | exact trivial | omega) ?_)
      exact ih (k + 1) M' (by omega) (by rw [show B + 400 * ((k + 1 : Nat) : Int) = B + 400 * k + 400 by push_cast; omega]; exact hR') hF'
    have doit : (aSets S k 20 k ≠ -6 ∨ aSets S k 21 k ≠ 0) → gV mX7_tick1 (d + 3) P 255 [vR 47, vI k, z2, z3] [] M := by
      intro hc
      have hg0 : goal (aSets S k) k ≠ -6 := by
        unfold goal
        split
        · exact hb.2.2.2.1 (by omega)
        · assumption
      repeat (refine gV_s rfl (by first | exact trivial | omega) ?_)
      refine gV_cV (ok_settleM (d := d) (B := B + 400 * k) (b := (k : Int)) hA (by omega) (by omega) hR (by omega) hg0 (goal_up hA hg0)) mX7_settle_ok sX7_X7_settle rfl rfl rfl rfl rfl rfl ?_
      rintro r M' ⟨rfl, hR', hF'⟩
      refine gV_s rfl trivial ?_
      refine nxt M' ?_ (Fr.tr hF hF')
      rw [step, if_pos hc]
      exact hR'
    refine gV_in rfl (by unfold rng; omega) (by omega) ?_
    repeat (refine gV_s rfl (by first | exact trivial | omega) ?_)
    rw [e53]
    refine gV_i rfl (by unfold rng; omega) (fun h1 => doit (Or.inl (by omega))) (fun h1 => ?_)
    repeat (refine gV_s rfl (by first | exact trivial | omega) ?_)
    rw [e54]
    refine gV_i rfl (by unfold rng; omega) (fun h2 => ?_) (fun h2 => doit (Or.inr h2))
    refine nxt M ?_ hF
    rw [step, if_neg (by omega)]
    exact RM_B hR (by omega)
theorem ok_tick1 {d : Nat} {S M : Mem} {B : Int} (h : NI S) (ht : S 5 0 < 1000000) (hR : RM S M B) (hB : B + 3300 ≤ 2000000000) : gOk mX7_tick1 (d + 3) [vR 47] M (fun r M' => r = none ∧ RM (aTick S) M' (B + 3300) ∧ Fr M M') := by
  have hL := h.1.1
  have h1 := AI_tk1 h ht
  have h2 := AI_tk2 h ht
  have h3 := AI_tk3 h ht
  have h4 := AI_tk4 h ht
  have h5 := h.1.2.2.2.1
  have e0 : M 47 0 = S 5 0 := hR.s0
  have c1 : tk1 S 1 = S 1 := mw_rn _ _ _ (by decide)
  have e25 : tk2 S 5 0 = S 5 0 + 1 := by rw [tk2_5]; exact tk1_t S
  have hR1 : RM (tk1 S) (mw M 47 0 (M 47 0 + 1)) B := by rw [e0]; exact RM_sc hR (by simp)
  have fin : ∀ (M' : Mem) (z1 : Int) (z2 z3 : PV), RM (tk4 S) M' (B + 32) → Fr M M' → gV mX7_tick1 (d + 3) (fun r M' => r = none ∧ RM (aTick S) M' (B + 3300) ∧ Fr M M') 229 [vR 47, vI z1, z2, z3] [] M' := by
    intro M' z1 z2 z3 hR' hF'
    repeat (refine gV_s rfl (by first | exact trivial | omega) ?_)
    exact set_loopM (d := d) (B := B + 32) (M0 := M) h4 (by omega) (fun M2 a b => ⟨rfl, RM_B a (by omega), b⟩) 8 0 M' rfl (RM_B hR' (by omega)) hF'
  have outs : ∀ (M' : Mem) (z1 : Int) (z2 z3 : PV), RM (tk3 S) M' (B + 32) → Fr M M' → gV mX7_tick1 (d + 3) (fun r M' => r = none ∧ RM (aTick S) M' (B + 3300) ∧ Fr M M') 190 [vR 47, vI z1, z2, z3] [] M' := by
    intro M' z1 z2 z3 hR' hF'
    have hn := h3.1.2.2.1
    repeat (refine gV_s rfl (by first | exact trivial | omega) ?_)
    rw [hR'.s16]
    by_cases c : 0 < tk3 S 41 3
    · have e4 : tk4 S = aOutC (bl0 (tk3 S) 16) (tk3 S 4 0).toNat := by unfold tk4 aOuts; rw [if_pos c]
      have hb : AI (bl0 (tk3 S) 16) (fun _ => S 5 0 + 1) (-1) := AI_scr h3 (fun r hr => bl0_o _ hr 16)
      have eb4 : bl0 (tk3 S) 16 4 = tk3 S 4 := bl0_o _ (by decide) 16
      have := out_loopM (d := d) (B := B + 32) (M0 := M) (z2 := z2) (z3 := z3) (P := fun r M' => r = none ∧ RM (aTick S) M' (B + 3300) ∧ Fr M M') hb (fun f f0 f1 => bl0_42 _ 16 f f0 (by omega)) (by omega) (fun M2 z a b => fin M2 z z2 z3 (by rw [e4, ← eb4]; exact a) b) (tk3 S 4 0).toNat 0 M' (by rw [eb4]; omega) (RM_S hR' (fun r hr => bl0_o _ (by rintro rfl; cases hr) 16)) hF'
      rw [eb4] at this
      exact this
    · have e4 : tk4 S = tk3 S := by unfold tk4 aOuts; rw [if_neg c]
      exact out_idle (d := d) h3 c hR' (fun z => fin M' z z2 z3 (by rw [e4]; exact hR') hF') (tk3 S 4 0).toNat 0 (by omega)
  have ars : ∀ (M' : Mem) (z1 : Int) (z2 z3 : PV), RM (tk2 S) M' (B + 32) → Fr M M' → gV mX7_tick1 (d + 3) (fun r M' => r = none ∧ RM (aTick S) M' (B + 3300) ∧ Fr M M') 133 [vR 47, vI z1, z2, z3] [] M' := by
    intro M' z1 z2 z3 hR' hF'
    repeat (refine gV_s rfl (by first | exact trivial | omega) ?_)
    rw [hR'.s1]
    refine ar_out (d := d) (B := B + 32) (M0 := M) (S := tk2 S) (x := -1) ?_ (by omega) (fun M2 z z2' a b => outs M2 z z2' z3 (by unfold tk3; rw [← tk2_1 S]; exact a) b) (tk2 S 1 0).toNat 0 M' z2 (by rw [tk2_1]; omega) hR' hF'
    rw [e25, show S 5 0 + 1 - 1 = S 5 0 by omega]
    exact h2
  refine gOk_of mX7_tick1_ok (by simp) (Nat.le_of_ble_eq_true rfl) ?_
  repeat (refine gV_s rfl (by first | exact trivial | omega) ?_)
  have e1 : mw M 47 0 (M 47 0 + 1) 47 1 = S 1 0 := by rw [hR1.s1, c1]
  rw [e1]
  have := lv_out (d := d) (B := B) (M0 := M) (S := tk1 S) (P := fun r M' => r = none ∧ RM (aTick S) M' (B + 3300) ∧ Fr M M') h1 (fun l => by show S 5 0 < tk1 S 5 0; rw [tk1_t]; omega) (by omega) (fun M2 z z2 z3 a b => ars M2 z z2 z3 (by unfold tk2; rw [← c1]; exact a) b) (S 1 0).toNat 0 (mw M 47 0 (M 47 0 + 1)) none none (by rw [c1]; omega) (RM_B hR1 (by omega)) (Fr.w Fr.rf (by decide))
  rw [c1] at this
  exact this
end
section
/-! The reference: what is told to it. -/
def dM (o : Int × Mem) (M : Mem) (B : Int) : PV → Mem → Prop := fun r M' => r = vI o.1 ∧ RM o.2 M' (B + 1700000) ∧ Fr M M'
theorem dMP {o : Int × Mem} {S' M M' : Mem} {v B : Int} (h : o = (v, S')) (hR : RM S' M' (B + 1700000)) (hF : Fr M M') : dM o M B (vI v) M' := by subst h; exact ⟨rfl, hR, hF⟩
theorem dM0 {o : Int × Mem} {S M : Mem} {v B : Int} (h : o = (v, S)) (hR : RM S M B) : dM o M B (vI v) M := dMP h (RM_B hR (by omega)) Fr.rf
theorem takes_loop {d : Nat} {S M0 : Mem} {lo : Int → Int} {B l : Int} (h : AI S lo (-2)) (hu : S 9 l = 1) :
    ∀ (n k : Nat) (M : Mem), k + n = 8 → RM (aTake S l k) M (B + 400 * k) → Fr M0 M → gV mX7_takes (d + 2) (fun r M' => r = vI (ct (is_ (S 19) (-6)) 8) ∧ RM (aTake S l 8) M' (B + 3200) ∧ Fr M0 M') 7 [vR 47, vI l, vI (ct (is_ (S 19) (-6)) k), vI k] [vI 8, vI k] M := by
  obtain ⟨l0, lL, l4⟩ := AI_up h hu
  intro n
  induction n with
  | zero =>
    intro k M hk hR hF
    have e : k = 8 := by omega
    subst e
    refine gV_it rfl (by unfold rng; omega) (by omega) ?_
    repeat (refine gV_s rfl (by first | exact trivial | omega) ?_)
    exact gV_ret rfl trivial ⟨rfl, RM_B hR (by omega), hF⟩
  | succ n ih =>
    intro k M hk hR hF
    have hA := AI_take h hu k (by omega)
    have hb := hA.2.2.1 k
    have hbk := AI_bk hA k
    have e19 : aTake S l k 19 k = S 19 k := by rw [aTake_19 S l0 l4, if_neg (by omega)]
    have e9 : aTake S l k 9 = S 9 := aTake_o S l0 l4 (by decide) (by decide) (by decide) (by decide) (by decide) (by decide) (by decide) (by omega) k
    have e52 : M 52 k = S 19 k := by rw [hR.e52, e19]
    rw [e19] at hb hbk
    have step : aTake S l (k + 1) = if aTake S l k 19 k = -6 then aRel (mw (aTake S l k) 19 k l) k else aTake S l k := rfl
    have ih2 := fun M' => ih (k + 1) M' (by omega)
    rw [ct_s _ k, show B + 400 * ((k + 1 : Nat) : Int) = B + 400 * k + 400 by push_cast; omega, step, e19] at ih2
    refine gV_in rfl (by unfold rng; omega) (by omega) ?_
    repeat (refine gV_s rfl (by first | exact trivial | omega) ?_)
    rw [e52]
    refine gV_i rfl (by unfold rng; omega) (fun h1 => ?_) (fun h1 => ?_)
    · rw [if_pos h1, if_pos (by simp [is_, h1]), rel_lets] at ih2
      have hh : aTake S l k 21 k = 0 := by
        rcases hb.2.2.1 with q | q
        · exact q
        · exact absurd h1 (hb.2.2.2.1 q)
      have es : mw (mw (aTake S l k) 19 k l) 21 k 0 = mw (aTake S l k) 19 k l := by
        have := mw_id (mw (aTake S l k) 19 k l) 21 k
        rw [mw_rn _ _ _ (by decide), hh] at this
        exact this
      rw [es] at ih2
      have hE1 : Ex [19, 20, 21, 23] (mw (aTake S l k) 19 k l) (aTake S l k) := Ex.skip1 Ex.rf (by decide)
      repeat (refine gV_s rfl (by first | exact trivial | omega) ?_)
      refine gV_cV (ok_lets (d := d) (b := (k : Int)) (B := B + 400 * k) hA hE1 (by omega) (by omega) (Or.inr (by rw [mw_rs, up1_s, e9]; exact hu)) (RM_w hR (by simp))) mX7_lets_ok sX7_X7_lets rfl rfl rfl rfl rfl rfl ?_
      rintro r M'' ⟨rfl, hR2, hF2⟩
      repeat (refine gV_s rfl (by first | exact trivial | omega) ?_)
      exact ih2 M'' hR2 (Fr.tr (Fr.w hF (by decide)) hF2)
    · rw [if_neg h1, if_neg (by simp [is_, h1]), Int.add_zero] at ih2
      repeat (refine gV_s rfl (by first | exact trivial | omega) ?_)
      exact ih2 M (RM_B hR (by omega)) hF
theorem ok_takes {d : Nat} {S M : Mem} {lo : Int → Int} {B l : Int} (h : AI S lo (-2)) (hu : S 9 l = 1) (hR : RM S M B) : gOk mX7_takes (d + 2) [vR 47, vI l] M (fun r M' => r = vI (ct (is_ (S 19) (-6)) 8) ∧ RM (aTake S l 8) M' (B + 3200) ∧ Fr M M') := by
  refine gOk_of mX7_takes_ok (by simp) (Nat.le_of_ble_eq_true rfl) ?_
  repeat (refine gV_s rfl (by first | exact trivial | omega) ?_)
  exact takes_loop (d := d) h hu 8 0 M rfl (RM_B hR (by omega)) Fr.rf
theorem ok_mBack {d : Nat} {S M : Mem} {B l : Int} (h : NI S) (hl : rng l) (hR : RM S M B) (hB : B + 1700000 ≤ 2000000000) : gOk mX7_back (d + 3) [vR 47, vI l] M (dM (oBack S l) M B) := by
  have hMM := MR_of h hR (by omega)
  have hL := h.1.1
  refine gOk_of mX7_back_ok (by simp) (Nat.le_of_ble_eq_true rfl) ?_
  repeat (refine gV_s rfl (by first | exact trivial | omega) ?_)
  refine gV_cV (ok_isLink (d := d + 1) (M := M) hMM hl) mX7_isLink_ok sX7_X7_isLink rfl rfl rfl rfl rfl rfl ?_
  rintro r M' ⟨rfl, ⟨h1, rfl⟩ | ⟨h1, rfl⟩⟩
  · rw [hR.s1] at h1
    have hup := h.2.1.2.1 l
    have e50 : M' 50 l = S 9 l := by rw [hR.e50]
    refine gV_in rfl (by unfold rng; omega) (by omega) ?_
    repeat (refine gV_s rfl (by first | exact trivial | omega) ?_)
    rw [e50]
    refine gV_i rfl (by unfold rng; omega) (fun h2 => ?_) (fun h2 => ?_)
    · repeat (refine gV_s rfl (by first | exact trivial | omega) ?_)
      refine gV_cV (ok_takes (d := d) (B := B) (l := l) (S := mw S 9 l 1) (AI_up1 h h1.1 h1.2) (by rw [mw_rs, up1_s]) (RM_w hR (by simp))) mX7_takes_ok sX7_X7_takes rfl rfl rfl rfl rfl rfl ?_
      rintro r M'' ⟨rfl, hR2, hF2⟩
      refine gV_ret rfl trivial (dMP (by unfold oBack; rw [if_pos h1, if_pos h2, mw_rn _ _ _ (by decide)]; rfl) (RM_B hR2 (by omega)) (Fr.tr (Fr.w Fr.rf (by decide)) hF2))
    · repeat (refine gV_s rfl (by first | exact trivial | omega) ?_)
      exact gV_ret rfl trivial (dM0 (by unfold oBack; rw [if_pos h1, if_neg h2]) hR)
  · rw [hR.s1] at h1
    refine gV_it rfl (by unfold rng; omega) rfl ?_
    repeat (refine gV_s rfl (by first | exact trivial | omega) ?_)
    exact gV_ret rfl trivial (dM0 (by unfold oBack; rw [if_neg h1]) hR)
theorem ok_mLink {d : Nat} {S M : Mem} {B s dl : Int} (h : NI S) (hs : rng s) (hd : rng dl) (hR : RM S M B) (hB : B + 1700000 ≤ 2000000000) : gOk mX7_link (d + 3) [vR 47, vI s, vI dl] M (dM (oLink S s dl) M B) := by
  have hL := h.1.1
  have e1 : M 47 1 = S 1 0 := hR.s1
  refine gOk_of mX7_link_ok (by simp) (Nat.le_of_ble_eq_true rfl) ?_
  repeat (refine gV_s rfl (by first | exact trivial | omega) ?_)
  refine gV_cS (ok_in (d := d + 2) (M := M) hs (by unfold rng; omega) (by unfold rng; omega)) mX7_in_ok sX7_X7_in rfl rfl rfl rfl ?_
  rintro r M' ⟨rfl, ⟨h1, rfl⟩ | ⟨h1, rfl⟩⟩
  · refine gV_in rfl (by unfold rng; omega) (by omega) ?_
    repeat (refine gV_s rfl (by first | exact trivial | omega) ?_)
    refine gV_cS (ok_in (d := d + 2) (M := M') hd (by unfold rng; omega) (by unfold rng; omega)) mX7_in_ok sX7_X7_in rfl rfl rfl rfl ?_
    rintro r M'' ⟨rfl, ⟨h2, rfl⟩ | ⟨h2, rfl⟩⟩
    · refine gV_in rfl (by unfold rng; omega) (by omega) ?_
      repeat (refine gV_s rfl (by first | exact trivial | omega) ?_)
      rw [e1]
      refine gV_i rfl (by unfold rng; omega) (fun h3 => ?_) (fun h3 => ?_)
      · repeat (refine gV_s rfl (by first | exact trivial | omega) ?_)
        exact gV_ret rfl trivial (dM0 (by unfold oLink; rw [if_pos ⟨h1, h2⟩, if_pos (by omega)]) hR)
      · have hR1 : RM (aLink0 S s dl) (mw (mw (mw (mw M'' 48 (M'' 47 1) s) 49 (M'' 47 1) dl) 50 (M'' 47 1) 1) 47 1 (M'' 47 1 + 1)) B := by
          rw [e1]
          exact RM_sc (RM_w (RM_w (RM_w hR (by simp)) (by simp)) (by simp)) (by simp)
        have hA := AI_link0 h (by omega) h1 h2
        have eS19 : aLink0 S s dl 19 = S 19 := by unfold aLink0; simp only [mw_rn, ne_eq, not_false_eq_true, Nat.reduceEqDiff, Nat.reduceLT, Nat.reduceLeDiff, true_or, or_true, forall_const]
        have hF1 : Fr M'' (mw (mw (mw (mw M'' 48 (M'' 47 1) s) 49 (M'' 47 1) dl) 50 (M'' 47 1) 1) 47 1 (M'' 47 1 + 1)) := Fr.w (Fr.w (Fr.w (Fr.w Fr.rf (by decide)) (by decide)) (by decide)) (by decide)
        have hb1 : 0 ≤ M'' 47 1 ∧ M'' 47 1 < 4 := by omega
        repeat (refine gV_s rfl (by first | exact trivial | omega) ?_)
        simp only [mw_rn, ne_eq, not_false_eq_true, Nat.reduceEqDiff, Nat.reduceLT, Nat.reduceLeDiff, true_or, or_true, forall_const]
        repeat (refine gV_s rfl (by first | exact trivial | omega) ?_)
        simp only [mw_rn, ne_eq, not_false_eq_true, Nat.reduceEqDiff, Nat.reduceLT, Nat.reduceLeDiff, true_or, or_true, forall_const]
        repeat (refine gV_s rfl (by first | exact trivial | omega) ?_)
        simp only [mw_rn, mw_rs, up1_s, ne_eq, not_false_eq_true, Nat.reduceEqDiff, Nat.reduceLT, Nat.reduceLeDiff, true_or, or_true, forall_const]
        rw [show M'' 47 1 + 1 - 1 = S 1 0 by omega]
        refine gV_cV (ok_takes (d := d) (B := B) (l := S 1 0) (S := aLink0 S s dl) hA (by unfold aLink0; simp only [mw_rs, mw_rn, ne_eq, not_false_eq_true, Nat.reduceEqDiff, Nat.reduceLT, Nat.reduceLeDiff, true_or, or_true, forall_const, up1_s]) hR1) mX7_takes_ok sX7_X7_takes rfl rfl rfl rfl rfl rfl ?_
        rintro r M3 ⟨rfl, hR2, hF2⟩
        have e13 : M3 47 1 = S 1 0 + 1 := by
          rw [hR2.s1, aTake_o _ (by omega) (by omega) (by decide) (by decide) (by decide) (by decide) (by decide) (by decide) (by decide) (by omega)]
          unfold aLink0
          rw [mw_rs, up1_s]
        repeat (refine gV_s rfl (by first | exact trivial | omega) ?_)
        rw [e13, show S 1 0 + 1 - 1 = S 1 0 by omega]
        exact gV_ret rfl trivial (dMP (by unfold oLink; rw [if_pos ⟨h1, h2⟩, if_neg (by omega)]; rfl) (RM_B hR2 (by omega)) (Fr.tr hF1 hF2))
    · refine gV_it rfl (by unfold rng; omega) rfl ?_
      repeat (refine gV_s rfl (by first | exact trivial | omega) ?_)
      exact gV_ret rfl trivial (dM0 (by unfold oLink; rw [if_neg (fun q => h2 q.2)]) hR)
  · refine gV_it rfl (by unfold rng; omega) rfl ?_
    repeat (refine gV_s rfl (by first | exact trivial | omega) ?_)
    exact gV_ret rfl trivial (dM0 (by unfold oLink; rw [if_neg (fun q => h1 q.1)]) hR)
theorem mtick_loop {d : Nat} {S M0 : Mem} {x B : Int} {P : PV → Mem → Prop} (h : NI S) (hx : 0 ≤ x ∧ x ≤ 500) (ht : S 5 0 + x ≤ 1000000) (hB : B + 1700000 ≤ 2000000000) (hP : ∀ M', RM (aTicks S x.toNat) M' (B + 1700000) → Fr M0 M' → P (vI (S 5 0 + x)) M') :
    ∀ (n k : Nat) (M : Mem), (k : Int) + n = x → RM (aTicks S k) M (B + 3300 * k) → Fr M0 M → gV mX7_tick (d + 4) P 18 [vR 47, vI x, vI k] [vI x, vI k] M := by
  intro n
  induction n with
  | zero =>
    intro k M hk hR hF
    have e : k = x.toNat := by omega
    subst e
    have e0 : M 47 0 = S 5 0 + x := by rw [hR.s0, (NI_ticks h x.toNat (by omega)).2]; omega
    refine gV_it rfl (by unfold rng; omega) (by omega) ?_
    repeat (refine gV_s rfl (by first | exact trivial | omega) ?_)
    rw [e0]
    exact gV_ret rfl trivial (hP M (RM_B hR (by omega)) hF)
  | succ n ih =>
    intro k M hk hR hF
    obtain ⟨i1, i2⟩ := NI_ticks h k (by omega)
    refine gV_in rfl (by unfold rng; omega) (by omega) ?_
    repeat (refine gV_s rfl (by first | exact trivial | omega) ?_)
    refine gV_cV (ok_tick1 (d := d) (B := B + 3300 * k) i1 (by omega) hR (by omega)) mX7_tick1_ok sX7_X7_tick1 rfl rfl rfl rfl rfl rfl ?_
    rintro r M' ⟨rfl, hR2, hF2⟩
    repeat (refine gV_s rfl (by first | exact trivial | omega) ?_)
    exact ih (k + 1) M' (by push_cast; omega) (by rw [show B + 3300 * ((k + 1 : Nat) : Int) = B + 3300 * k + 3300 by push_cast; omega]; exact hR2) (Fr.tr hF hF2)
theorem ok_mTick {d : Nat} {S M : Mem} {B x : Int} (h : NI S) (hx : rng x) (ht : S 5 0 ≤ 900000) (hR : RM S M B) (hB : B + 1700000 ≤ 2000000000) : gOk mX7_tick (d + 4) [vR 47, vI x] M (dM (oTick S x) M B) := by
  have h0 := h.1.2.2.2.1
  refine gOk_of mX7_tick_ok (by simp) (Nat.le_of_ble_eq_true rfl) ?_
  repeat (refine gV_s rfl (by first | exact trivial | omega) ?_)
  refine gV_cS (ok_in (d := d + 3) (M := M) hx (by unfold rng; omega) (by unfold rng; omega)) mX7_in_ok sX7_X7_in rfl rfl rfl rfl ?_
  rintro r M' ⟨rfl, ⟨h1, rfl⟩ | ⟨h1, rfl⟩⟩
  · refine gV_in rfl (by unfold rng; omega) (by omega) ?_
    repeat (refine gV_s rfl (by first | exact trivial | omega) ?_)
    exact mtick_loop (d := d) (B := B) (M0 := M') h h1 (by omega) hB (fun M2 a b => dMP (by unfold oTick; rw [if_pos h1]) a b) x.toNat 0 M' (by omega) (RM_B hR (by omega)) Fr.rf
  · refine gV_it rfl (by unfold rng; omega) rfl ?_
    repeat (refine gV_s rfl (by first | exact trivial | omega) ?_)
    exact gV_ret rfl trivial (dM0 (by unfold oTick; rw [if_neg h1]) hR)
theorem ok_mFlow {d : Nat} {S M : Mem} {B x : Int} (h : NI S) (hx : rng x) (hR : RM S M B) : gOk mX7_flow (d + 1) [vR 47, vI x] M (dM (oFlow S x) M B) := by
  have hF := h.1.2.1
  have e10 : M 47 10 = S 3 0 := hR.s10
  refine gOk_of mX7_flow_ok (by simp) (Nat.le_of_ble_eq_true rfl) ?_
  repeat (refine gV_s rfl (by first | exact trivial | omega) ?_)
  refine gV_cS (ok_in (d := d) (M := M) hx (by unfold rng; omega) (by unfold rng; omega)) mX7_in_ok sX7_X7_in rfl rfl rfl rfl ?_
  rintro r M' ⟨rfl, ⟨h1, rfl⟩ | ⟨h1, rfl⟩⟩
  · refine gV_in rfl (by unfold rng; omega) (by omega) ?_
    repeat (refine gV_s rfl (by first | exact trivial | omega) ?_)
    rw [e10]
    refine gV_i rfl (by unfold rng; omega) (fun h3 => ?_) (fun h3 => ?_)
    · repeat (refine gV_s rfl (by first | exact trivial | omega) ?_)
      exact gV_ret rfl trivial (dM0 (by unfold oFlow; rw [if_pos h1, if_pos (by omega)]) hR)
    · have hR1 : RM (aFlow S x) (mw (mw (mw M' 56 (M' 47 10) x) 57 (M' 47 10) (-1)) 47 10 (M' 47 10 + 1)) B := by
        rw [e10]
        unfold aFlow
        exact RM_sc (RM_S (RM_w (RM_w hR (by simp)) (by simp)) (fun r hr => mw_rn _ _ _ (by rintro rfl; cases hr))) (by simp)
      have ex : (mw (mw (mw M' 56 (M' 47 10) x) 57 (M' 47 10) (-1)) 47 10 (M' 47 10 + 1)) 47 10 - 1 = S 3 0 := by rw [mw_rs, up1_s, e10]; omega
      have hb1 : 0 ≤ M' 47 10 ∧ M' 47 10 < 16 := by omega
      repeat (refine gV_s rfl (by first | exact trivial | omega | (simp only [mw_rn, ne_eq, not_false_eq_true, Nat.reduceEqDiff, Nat.reduceLT, Nat.reduceLeDiff, true_or, or_true, forall_const]; omega)) ?_)
      change gV mX7_flow (d + 1) _ 61 [vR 47, vI x] [vI ((mw (mw (mw M' 56 (M' 47 10) x) 57 (M' 47 10) (-1)) 47 10 (M' 47 10 + 1)) 47 10 - 1)] (mw (mw (mw M' 56 (M' 47 10) x) 57 (M' 47 10) (-1)) 47 10 (M' 47 10 + 1))
      rw [ex]
      exact gV_ret rfl trivial (dMP (by unfold oFlow; rw [if_pos h1, if_neg (by omega)]) (RM_B hR1 (by omega)) (Fr.w (Fr.w (Fr.w Fr.rf (by decide)) (by decide)) (by decide)))
  · refine gV_it rfl (by unfold rng; omega) rfl ?_
    repeat (refine gV_s rfl (by first | exact trivial | omega) ?_)
    exact gV_ret rfl trivial (dM0 (by unfold oFlow; rw [if_neg h1]) hR)
theorem ok_mRate {d : Nat} {S M : Mem} {B f x : Int} (h : NI S) (hf : rng f) (hx : rng x) (hR : RM S M B) (hB : B + 1700000 ≤ 2000000000) : gOk mX7_rate (d + 2) [vR 47, vI f, vI x] M (dM (oRate S f x) M B) := by
  have hMM := MR_of h hR (by omega)
  have hF := h.1.2.1
  refine gOk_of mX7_rate_ok (by simp) (Nat.le_of_ble_eq_true rfl) ?_
  repeat (refine gV_s rfl (by first | exact trivial | omega) ?_)
  refine gV_cV (ok_isFlow (d := d) (M := M) hMM hf) mX7_isFlow_ok sX7_X7_isFlow rfl rfl rfl rfl rfl rfl ?_
  rintro r M' ⟨rfl, ⟨h1, rfl⟩ | ⟨h1, rfl⟩⟩
  · rw [hR.s10] at h1
    refine gV_in rfl (by unfold rng; omega) (by omega) ?_
    repeat (refine gV_s rfl (by first | exact trivial | omega) ?_)
    refine gV_cS (ok_in (d := d + 1) (M := M') hx (by unfold rng; omega) (by unfold rng; omega)) mX7_in_ok sX7_X7_in rfl rfl rfl rfl ?_
    rintro r M'' ⟨rfl, ⟨h2, rfl⟩ | ⟨h2, rfl⟩⟩
    · refine gV_in rfl (by unfold rng; omega) (by omega) ?_
      repeat (refine gV_s rfl (by first | exact trivial | omega) ?_)
      have e56 : M'' 56 f = S 24 f := by rw [hR.e56]
      rw [e56]
      exact gV_ret rfl trivial (dMP (by unfold oRate; rw [if_pos h1, if_pos h2]) (RM_B (RM_w hR (by simp)) (by omega)) (Fr.w Fr.rf (by decide)))
    · refine gV_it rfl (by unfold rng; omega) rfl ?_
      repeat (refine gV_s rfl (by first | exact trivial | omega) ?_)
      exact gV_ret rfl trivial (dM0 (by unfold oRate; rw [if_pos h1, if_neg h2]) hR)
  · rw [hR.s10] at h1
    refine gV_it rfl (by unfold rng; omega) rfl ?_
    repeat (refine gV_s rfl (by first | exact trivial | omega) ?_)
    exact gV_ret rfl trivial (dM0 (by unfold oRate; rw [if_neg h1]) hR)
theorem ct_all : ∀ n : Nat, ct (fun _ => true) n = n
  | 0 => rfl
  | n + 1 => by rw [ct_s, ct_all n]; simp
theorem open_ct {p q r : Int → Bool} {n : Nat} (hp : ∀ i, p i = true → r i = true ∧ q i = false) (hq : ∀ i, q i = true → r i = true) : (∃ i : Int, 0 ≤ i ∧ i < n ∧ r i = true ∧ p i = false ∧ q i = false) ↔ ct p n + ct q n < ct r n := by
  have h1 : ct p n + ct q n = ct (fun i => p i || q i) n := ct_or (fun i _ _ => by
    have := hp i
    cases e1 : p i <;> cases e2 : q i <;> simp_all [bi])
  rw [h1]
  constructor
  · rintro ⟨i, i0, i1, i2, i3, i4⟩
    exact ct_lt (i := i) (fun j _ _ hj => by
      have a := hp j
      have b := hq j
      cases e1 : p j <;> simp_all) i0 i1 (by simp [i3, i4]) i2
  · intro hlt
    by_cases hc : ∃ i : Int, 0 ≤ i ∧ i < n ∧ r i = true ∧ p i = false ∧ q i = false
    · exact hc
    · have : ct (fun i => p i || q i) n = ct r n := ct_cong (fun j j0 j1 => by
        have a := hp j
        have b := hq j
        cases e1 : p j <;> cases e2 : q j <;> cases e3 : r j <;> simp_all)
      omega
theorem open_f {S M : Mem} {lo : Int → Int} {x B f : Int} (h : AI S lo x) (hR : RM S M B) (f0 : 0 ≤ f) (f1 : f < 16) : (∃ i, 0 ≤ i ∧ i < M 47 16 ∧ M 61 i < 4 ∧ (f < 0 ∨ M 58 i = f)) ↔ S 27 f + S 28 f < S 26 f := by
  obtain ⟨a1, a2, a3⟩ := h.2.2.2.2.2.2.2.2.2.1 f f0 f1
  have h4 := h.1.2.2.1
  rw [a1, a2, a3, ← open_ct (fun i hi => by simp at hi ⊢; omega) (fun i hi => by simp at hi ⊢; omega), hR.s16, hR.e61, hR.e58]
  constructor
  · rintro ⟨i, i0, i1, i2, i3⟩
    refine ⟨i, i0, by omega, ?_, ?_, ?_⟩
    · simp; omega
    · simp; omega
    · simp; omega
  · rintro ⟨i, i0, i1, i2, i3, i4⟩
    have ht := (h.2.2.2.2.2.2.1 i).2.2.2.1
    simp at i2 i3 i4
    refine ⟨i, i0, by omega, ?_, Or.inr i2⟩
    by_cases e4 : S 34 i = 4
    · exact absurd i2 (i3 e4)
    · by_cases e5 : S 34 i = 5
      · exact absurd i2 (i4 e5)
      · omega
theorem open_all {S M : Mem} {lo : Int → Int} {x B : Int} (h : AI S lo x) (hR : RM S M B) : (∃ i, 0 ≤ i ∧ i < M 47 16 ∧ M 61 i < 4 ∧ ((-1 : Int) < 0 ∨ M 58 i = -1)) ↔ S 41 4 + S 41 5 < S 4 0 := by
  have a2 := h.2.2.2.2.2.2.2.1 4 (by decide) (by decide)
  have a3 := h.2.2.2.2.2.2.2.1 5 (by decide) (by decide)
  have h4 := h.1.2.2.1
  have hc := ct_all (S 4 0).toNat
  rw [show ((S 4 0).toNat : Int) = S 4 0 by omega] at hc
  rw [← hc, a2, a3, ← open_ct (fun i hi => by simp at hi ⊢; omega) (fun i hi => by simp at hi ⊢), hR.s16, hR.e61, hR.e58]
  constructor
  · rintro ⟨i, i0, i1, i2, i3⟩
    refine ⟨i, i0, by omega, rfl, ?_, ?_⟩
    · simp; omega
    · simp; omega
  · rintro ⟨i, i0, i1, i2, i3, i4⟩
    have ht := (h.2.2.2.2.2.2.1 i).2.2.2.1
    simp at i3 i4
    exact ⟨i, i0, by omega, by omega, Or.inl (by decide)⟩
theorem ok_mPin {d : Nat} {S M : Mem} {B f b : Int} (h : NI S) (hf : rng f) (hb : rng b) (hR : RM S M B) (hB : B + 1700000 ≤ 2000000000) : gOk mX7_pin (d + 2) [vR 47, vI f, vI b] M (dM (oPin S f b) M B) := by
  have hMM := MR_of h hR (by omega)
  have hF := h.1.2.1
  refine gOk_of mX7_pin_ok (by simp) (Nat.le_of_ble_eq_true rfl) ?_
  repeat (refine gV_s rfl (by first | exact trivial | omega) ?_)
  refine gV_cV (ok_isFlow (d := d) (M := M) hMM hf) mX7_isFlow_ok sX7_X7_isFlow rfl rfl rfl rfl rfl rfl ?_
  rintro r M' ⟨rfl, ⟨h1, rfl⟩ | ⟨h1, rfl⟩⟩
  · rw [hR.s10] at h1
    refine gV_in rfl (by unfold rng; omega) (by omega) ?_
    repeat (refine gV_s rfl (by first | exact trivial | omega) ?_)
    refine gV_cS (ok_in (d := d + 1) (M := M') hb (by unfold rng; omega) (by unfold rng; omega)) mX7_in_ok sX7_X7_in rfl rfl rfl rfl ?_
    rintro r M'' ⟨rfl, ⟨h2, rfl⟩ | ⟨h2, rfl⟩⟩
    · refine gV_in rfl (by unfold rng; omega) (by omega) ?_
      repeat (refine gV_s rfl (by first | exact trivial | omega) ?_)
      refine gV_cV (ok_hasOpen (d := d + 1) (M := M'') (f := f) hMM hf) mX7_hasOpen_ok sX7_X7_hasOpen rfl rfl rfl rfl rfl rfl ?_
      have ho := open_f h hR h1.1 (show f < 16 by omega)
      rintro r M3 ⟨rfl, ⟨h3, rfl⟩ | ⟨h3, rfl⟩⟩
      · refine gV_in rfl (by unfold rng; omega) (by omega) ?_
        repeat (refine gV_s rfl (by first | exact trivial | omega) ?_)
        exact gV_ret rfl trivial (dM0 (by unfold oPin; rw [if_pos h1, if_pos (by omega), if_pos (ho.mp h3)]) hR)
      · refine gV_it rfl (by unfold rng; omega) rfl ?_
        repeat (refine gV_s rfl (by first | exact trivial | omega) ?_)
        refine gV_cV (ok_bucketNow (d := d + 1) (M := M3) (f := f) (P := fun r M' => r = vI (bkO S f) ∧ M' = M3) hMM h1.1 (by omega) ⟨by rw [bkM_eq h hR], rfl⟩) mX7_bucketNow_ok sX7_X7_bucketNow rfl rfl rfl rfl rfl rfl ?_
        rintro r M4 ⟨rfl, rfl⟩
        repeat (refine gV_s rfl (by first | exact trivial | omega) ?_)
        exact gV_ret rfl trivial (dMP (by unfold oPin; rw [if_pos h1, if_pos (by omega), if_neg (fun q => h3 (ho.mpr q))]) (RM_B (RM_w hR (by simp)) (by omega)) (Fr.w Fr.rf (by decide)))
    · refine gV_it rfl (by unfold rng; omega) rfl ?_
      repeat (refine gV_s rfl (by first | exact trivial | omega) ?_)
      exact gV_ret rfl trivial (dM0 (by unfold oPin; rw [if_pos h1, if_neg (by omega)]) hR)
  · rw [hR.s10] at h1
    refine gV_it rfl (by unfold rng; omega) rfl ?_
    repeat (refine gV_s rfl (by first | exact trivial | omega) ?_)
    exact gV_ret rfl trivial (dM0 (by unfold oPin; rw [if_neg h1]) hR)
theorem ok_mHash {d : Nat} {S M : Mem} {B a c : Int} (h : NI S) (ha : rng a) (hc : rng c) (hR : RM S M B) (hB : B + 1700000 ≤ 2000000000) : gOk mX7_hash (d + 1) [vR 47, vI a, vI c] M (dM (oHash S a c) M B) := by
  have hMM := MR_of h hR (by omega)
  refine gOk_of mX7_hash_ok (by simp) (Nat.le_of_ble_eq_true rfl) ?_
  repeat (refine gV_s rfl (by first | exact trivial | omega) ?_)
  refine gV_cS (ok_in (d := d) (M := M) ha (by unfold rng; omega) (by unfold rng; omega)) mX7_in_ok sX7_X7_in rfl rfl rfl rfl ?_
  rintro r M' ⟨rfl, ⟨h1, rfl⟩ | ⟨h1, rfl⟩⟩
  · refine gV_in rfl (by unfold rng; omega) (by omega) ?_
    repeat (refine gV_s rfl (by first | exact trivial | omega) ?_)
    refine gV_cS (ok_in (d := d) (M := M') hc (by unfold rng; omega) (by unfold rng; omega)) mX7_in_ok sX7_X7_in rfl rfl rfl rfl ?_
    rintro r M'' ⟨rfl, ⟨h2, rfl⟩ | ⟨h2, rfl⟩⟩
    · refine gV_in rfl (by unfold rng; omega) (by omega) ?_
      repeat (refine gV_s rfl (by first | exact trivial | omega) ?_)
      refine gV_cV (ok_hasOpen (d := d) (M := M'') (f := -1) hMM (by unfold rng; omega)) mX7_hasOpen_ok sX7_X7_hasOpen rfl rfl rfl rfl rfl rfl ?_
      have ho := open_all h hR
      rintro r M3 ⟨rfl, ⟨h3, rfl⟩ | ⟨h3, rfl⟩⟩
      · refine gV_in rfl (by unfold rng; omega) (by omega) ?_
        repeat (refine gV_s rfl (by first | exact trivial | omega) ?_)
        exact gV_ret rfl trivial (dM0 (by unfold oHash; rw [if_pos ⟨h1, h2⟩, if_pos (ho.mp h3)]) hR)
      · refine gV_it rfl (by unfold rng; omega) rfl ?_
        repeat (refine gV_s rfl (by first | exact trivial | omega) ?_)
        exact gV_ret rfl trivial (dMP (by unfold oHash; rw [if_pos ⟨h1, h2⟩, if_neg (fun q => h3 (ho.mpr q))]) (RM_B (RM_sc (RM_sc hR (by simp)) (by simp)) (by omega)) (Fr.w (Fr.w Fr.rf (by decide)) (by decide)))
    · refine gV_it rfl (by unfold rng; omega) rfl ?_
      repeat (refine gV_s rfl (by first | exact trivial | omega) ?_)
      exact gV_ret rfl trivial (dM0 (by unfold oHash; rw [if_neg (fun q => h2 q.2)]) hR)
  · refine gV_it rfl (by unfold rng; omega) rfl ?_
    repeat (refine gV_s rfl (by first | exact trivial | omega) ?_)
    exact gV_ret rfl trivial (dM0 (by unfold oHash; rw [if_neg (fun q => h1 q.1)]) hR)
theorem ok_mNumbers {d : Nat} {S M : Mem} {B v : Int} (h : NI S) (hv : v = 0 ∨ v = 1) (hR : RM S M B) (hB : B + 1700000 ≤ 2000000000) : gOk mX7_numbers (d + 1) [vR 47, vI v] M (dM (oNumbers S v) M B) := by
  have hMM := MR_of h hR (by omega)
  have hno := h.1.2.2.2.2.1
  have hn0 : rng (S 5 1) := by unfold rng; omega
  have hn1 : ¬ S 5 1 = 0 → S 5 1 = 1 := fun q => by omega
  have ho := open_all h hR
  refine gOk_of mX7_numbers_ok (by simp) (Nat.le_of_ble_eq_true rfl) ?_
  repeat (refine gV_s rfl (by first | exact trivial | omega) ?_)
  refine gV_cV (ok_hasOpen (d := d) (M := M) (f := -1) hMM (by unfold rng; omega)) mX7_hasOpen_ok sX7_X7_hasOpen rfl rfl rfl rfl rfl rfl ?_
  rintro r M3 ⟨rfl, ⟨h3, rfl⟩ | ⟨h3, rfl⟩⟩
  · refine gV_in rfl (by unfold rng; omega) (by omega) ?_
    repeat (refine gV_s rfl (by first | exact trivial | omega) ?_)
    exact gV_ret rfl trivial (dM0 (by unfold oNumbers; rw [if_pos (ho.mp h3)]) hR)
  · refine gV_it rfl (by unfold rng; omega) rfl ?_
    repeat (refine gV_s rfl (by first | exact trivial | omega) ?_)
    rw [hR.s15]
    have hR1 : RM (mw S 5 1 v) (mw M3 47 15 v) (B + 1700000) := RM_B (RM_sc hR (by simp)) (by omega)
    refine gV_i rfl hn0 (fun h4 => ?_) (fun h4 => ?_)
    · repeat (refine gV_s rfl (by first | exact trivial | omega) ?_)
      exact gV_ret rfl trivial (dMP (by unfold oNumbers; rw [if_neg (fun q => h3 (ho.mpr q)), h4]) hR1 (Fr.w Fr.rf (by decide)))
    · repeat (refine gV_s rfl (by first | exact trivial | omega) ?_)
      exact gV_ret rfl trivial (dMP (by unfold oNumbers; rw [if_neg (fun q => h3 (ho.mpr q)), hn1 h4]) hR1 (Fr.w Fr.rf (by decide)))
end
section
/-! The reference: sending, moving, dropping a move. -/
def mNew (M : Mem) (i f b p t : Int) : Mem := mw (mw (mw (mw (mw (mw (mw (mw (mw (mw M 59 i p) 58 i f) 60 i b) 61 i 0) 62 i (-6)) 63 i t) 64 i (-6)) 65 i (-6)) 66 i (-6)) 47 16 (i + 1)
theorem aPost0_o (S : Mem) (f : Int) {r : Nat} (h : r ≠ 4) (h2 : r < 26 ∨ r = 40) : aPost0 S f r = S r := by
  unfold aPost0 aAdd
  rw [mw_rn _ _ _ (by omega), mw_rn _ _ _ (by omega), mw_rn _ _ _ (by omega), mw_rn _ _ _ (by omega), mw_rn _ _ _ (by omega), mw_rn _ _ _ (by omega), mw_rn _ _ _ (by omega), mw_rn _ _ _ (by omega), mw_rn _ _ _ (by omega), mw_rn _ _ _ (by omega), mw_rn _ _ _ (by omega), mw_rn _ _ _ (by omega)]
theorem RM_new {S M : Mem} {B f : Int} (hR : RM S M B) : RM (aPost0 S f) (mNew M (S 4 0) f (bkO S f) (S 26 f) (S 5 0)) B := by
  obtain ⟨⟨e48, e49, e50, e51, e52, e53, e54, e55, e56, e57, e58, e59, e60, e61, e62, e63, e64, e65, e66, e69, e70⟩, ⟨t1, t2, t3, t4, t5, t6, t7, t8, t9⟩, hT⟩ := hR
  refine ⟨?_, ?_, ?_⟩
  · unfold Rr aPost0 aAdd mNew
    simp only [mw_rs, mw_rn, ne_eq, not_false_eq_true, Nat.reduceEqDiff, Nat.reduceLT, Nat.reduceLeDiff, true_or, or_true, forall_const]
    simp only [e48, e49, e50, e51, e52, e53, e54, e55, e56, e57, e58, e59, e60, e61, e62, e63, e64, e65, e66, e69, e70, and_self]
  · unfold Rs aPost0 aAdd mNew
    simp only [mw_rs, mw_rn, ne_eq, not_false_eq_true, Nat.reduceEqDiff, Nat.reduceLT, Nat.reduceLeDiff, true_or, or_true, forall_const, up1_e]
    simp [t1, t2, t3, t4, t5, t6, t7, t8, t9]
  · rw [aPost0_o S f (by decide) (by decide), aPost0_o S f (by decide) (by decide), aPost0_o S f (by decide) (by decide)]
    unfold mNew
    simp only [mw_rs, mw_rn, ne_eq, not_false_eq_true, Nat.reduceEqDiff, Nat.reduceLT, Nat.reduceLeDiff, true_or, or_true, forall_const]
    rw [up1_n _ _ (by decide)]
    exact Rt_rw hT (fun k p k0 k4 => by
      show aPost0 S f (11 + k.toNat) p = _
      rw [aPost0_o S f (by omega) (by omega)])
theorem bk_send {S : Mem} {lo : Int → Int} {f : Int} (h : AI S lo (-1)) : bkO (aPost S f) f = bkO S f := by
  unfold bkO
  rw [aPost_r h (by omega), aPost_r h (by omega)]
theorem bk_sends {S : Mem} {lo : Int → Int} {f : Int} (h : AI S lo (-1)) (f0 : 0 ≤ f) (f1 : f < S 3 0) : ∀ k : Nat, S 4 0 + k ≤ 400 → bkO (aSend S f k) f = bkO S f
  | 0, _ => rfl
  | k + 1, hk => by
    have i1 := (AI_send h f0 f1 k (by omega)).1
    rw [aSend, bk_send i1, bk_sends h f0 f1 k (by omega)]
theorem msend_loop {d : Nat} {S M0 : Mem} {f x B : Int} {P : PV → Mem → Prop} (h : NI S) (f0 : 0 ≤ f) (f1 : f < S 3 0) (hx : 1 ≤ x ∧ x ≤ 50) (hc : S 4 0 + x ≤ 400) (hB : B + 1700000 ≤ 2000000000) (hP : ∀ M', RM (aSend S f x.toNat) M' (B + 50) → Fr M0 M' → P (vI (S 4 0 + x)) M') :
    ∀ (n k : Nat) (M : Mem) (z5 z6 : PV), (k : Int) + n = x → RM (aSend S f k) M (B + k) → Fr M0 M → gV mX7_send (d + 1) P 50 [vR 47, vI f, vI x, vI (bkO S f), vI k, z5, z6] [vI x, vI k] M := by
  intro n
  induction n with
  | zero =>
    intro k M z5 z6 hk hR hF
    have e : k = x.toNat := by omega
    subst e
    obtain ⟨i1, i2, i3, i4⟩ := AI_send h f0 f1 x.toNat (by omega)
    refine gV_it rfl (by unfold rng; omega) (by omega) ?_
    repeat (refine gV_s rfl (by first | exact trivial | omega) ?_)
    rw [hR.s16, i2, show ((x.toNat : Nat) : Int) = x by omega]
    exact gV_ret rfl trivial (hP M (RM_B hR (by omega)) hF)
  | succ n ih =>
    intro k M z5 z6 hk hR hF
    obtain ⟨i1, i2, i3, i4⟩ := AI_send h f0 f1 k (by omega)
    have hFc := i1.1.2.1
    have hF3 := h.1.2.1
    have hL := i1.1.1
    have h4 := i1.1.2.2.1
    have eb := bk_sends h f0 f1 k (by omega)
    obtain ⟨b0, b8⟩ := bkO_in i1 f0 (by rw [i3] at hFc; omega)
    rw [eb] at b0 b8
    have hb := i1.2.2.1 (bkO S f)
    have hbk := AI_bk i1 (bkO S f)
    have hMM := MR_of i1 hR (by omega)
    have e16 : M 47 16 = aSend S f k 4 0 := hR.s16
    have e0 : M 47 0 = aSend S f k 5 0 := hR.s0
    have e54 : M 54 (bkO S f) = aSend S f k 21 (bkO S f) := by rw [hR.e54]
    have e52 : M 52 (bkO S f) = aSend S f k 19 (bkO S f) := by rw [hR.e52]
    have ehd : ct (cHd M (bkO S f)) (M 47 16).toNat = aSend S f k 22 (bkO S f) := by
      rw [i1.2.2.2.2.2.2.2.2.1 _ b0 b8, e16]
      exact ct_cong (fun j _ _ => by unfold cHd; rw [hR.e61, hR.e60])
    have efl : ct (cFl M f (-1)) (M 47 16).toNat = aSend S f k 26 f := by
      rw [(i1.2.2.2.2.2.2.2.2.2.1 f f0 (by rw [i3] at hFc; omega)).1, e16]
      exact ct_cong (fun j _ _ => by unfold cFl; rw [hR.e58]; simp)
    have hhd : 0 ≤ aSend S f k 22 (bkO S f) ∧ aSend S f k 22 (bkO S f) ≤ 400 := by
      have := i1.2.2.2.2.2.2.2.2.1 _ b0 b8
      have nn := ct_nn (fun j => decide (aSend S f k 34 j = 0 ∧ aSend S f k 33 j = bkO S f)) (aSend S f k 4 0).toNat
      omega
    have step : aSend S f (k + 1) = if aSend S f k 21 (bkO S f) ≠ 0 ∨ aSend S f k 19 (bkO S f) = -6 ∨ 0 < aSend S f k 22 (bkO S f) then aNew (aSend S f k) f (bkO S f) else aEnq (aPost0 (aSend S f k) f) (aSend S f k 4 0) (aSend S f k 19 (bkO S f)) := by
      rw [aSend]
      unfold aPost
      rw [eb]
    have hRn := RM_new (f := f) hR
    rw [eb] at hRn
    have nxt : ∀ (M' : Mem) (z5 z6 : PV), RM (aSend S f (k + 1)) M' (B + k + 1) → Fr M0 M' → gV mX7_send (d + 1) P 205 [vR 47, vI f, vI x, vI (bkO S f), vI k, z5, z6] [] M' := by
      intro M' z5 z6 hR' hF'
      repeat (refine gV_s rfl (by first | exact trivial | omega) ?_)
      exact ih (k + 1) M' _ _ (by push_cast; omega) (by rw [show B + ((k + 1 : Nat) : Int) = B + k + 1 by push_cast; omega]; exact hR') hF'
    have hFn : Fr M0 (mNew M (aSend S f k 4 0) f (bkO S f) (aSend S f k 26 f) (aSend S f k 5 0)) := Fr.w (Fr.w (Fr.w (Fr.w (Fr.w (Fr.w (Fr.w (Fr.w (Fr.w (Fr.w hF (by decide)) (by decide)) (by decide)) (by decide)) (by decide)) (by decide)) (by decide)) (by decide)) (by decide)) (by decide)
    have tail : ∀ (v : Int), ((v = 1 ∧ (aSend S f k 21 (bkO S f) ≠ 0 ∨ aSend S f k 19 (bkO S f) = -6 ∨ 0 < aSend S f k 22 (bkO S f))) ∨ (v = 0 ∧ ¬ (aSend S f k 21 (bkO S f) ≠ 0 ∨ aSend S f k 19 (bkO S f) = -6 ∨ 0 < aSend S f k 22 (bkO S f)))) → gV mX7_send (d + 1) P 86 [vR 47, vI f, vI x, vI (bkO S f), vI k, z5, z6] [vI v] M := by
      intro v hv
      repeat (refine gV_s rfl (by first | exact trivial | omega) ?_)
      refine gV_cV (ok_ofFlowIn (d := d) (M := M) (f := f) (s := -1) (P := fun r M' => r = vI (aSend S f k 26 f) ∧ M' = M) hMM (by unfold rng; omega) (by unfold rng; omega) ⟨by rw [efl], rfl⟩) mX7_ofFlowIn_ok sX7_X7_ofFlowIn rfl rfl rfl rfl rfl rfl ?_
      rintro r M' ⟨rfl, rfl⟩
      rw [e16]
      repeat (refine gV_s rfl (by first | exact trivial | omega) ?_)
      simp only [mw_rn, ne_eq, not_false_eq_true, Nat.reduceEqDiff, Nat.reduceLT, Nat.reduceLeDiff, true_or, or_true, forall_const]
      rw [e16, e0]
      rcases hv with ⟨rfl, hv⟩ | ⟨rfl, hv⟩
      · refine gV_in rfl (by unfold rng; omega) (by omega) ?_
        refine nxt _ _ _ ?_ hFn
        rw [step, if_pos hv]
        exact RM_B (RM_S hRn (fun r hr => by
          show aNew (aSend S f k) f (bkO S f) r = _
          unfold aNew aPost0
          rw [mw_rn _ _ _ (by rintro rfl; cases hr), eb])) (by omega)
      · have hon : aSend S f k 19 (bkO S f) ≠ -6 := fun q => hv (Or.inr (Or.inl q))
        have hl4 : 0 ≤ aSend S f k 19 (bkO S f) ∧ aSend S f k 19 (bkO S f) < 4 := by omega
        refine gV_it rfl (by unfold rng; omega) rfl ?_
        repeat (refine gV_s rfl (by first | exact trivial | omega) ?_)
        simp only [mw_rn, ne_eq, not_false_eq_true, Nat.reduceEqDiff, Nat.reduceLT, Nat.reduceLeDiff, true_or, or_true, forall_const]
        rw [e52]
        refine gV_cV (ok_queue (d := d) (M := mNew M' (aSend S f k 4 0) f (bkO S f) (aSend S f k 26 f) (aSend S f k 5 0)) (i := aSend S f k 4 0) (l := aSend S f k 19 (bkO S f)) (P := fun r M2 => r = none ∧ M2 = mQueue (mNew M' (aSend S f k 4 0) f (bkO S f) (aSend S f k 26 f) (aSend S f k 5 0)) (aSend S f k 4 0) (aSend S f k 19 (bkO S f))) (by omega) (by omega) ⟨rfl, rfl⟩) mX7_queue_ok sX7_X7_queue rfl rfl rfl rfl rfl rfl ?_
        rintro r M2 ⟨rfl, rfl⟩
        refine nxt _ _ _ ?_ (Fr.w (Fr.w (Fr.w (Fr.w hFn (by decide)) (by decide)) (by decide)) (by decide))
        rw [step, if_neg hv]
        refine RM_enq hRn hl4.1 hl4.2 ?_ ?_ ?_
        · rw [aPost0_o _ f (by decide) (by decide), aPost0_o _ f (by decide) (by decide), aPost0_o _ f (by decide) (by decide)]
          exact AI_ord i1
        · rw [aPost0_o _ f (by decide) (by decide)]
          intro k' p a1 a2 a3 a4 e
          have e2 : qr (aPost0 (aSend S f k) f) k' p = qr (aSend S f k) k' p := by
            show aPost0 (aSend S f k) f (11 + k'.toNat) p = _
            rw [aPost0_o _ f (by omega) (by omega)]
          rw [e2] at e
          have := ((i1.2.2.2.2.2.2.2.2.2.2.2.1 k' a1 a2).2.1 p a3 a4).1.2.1
          rw [show (qr (aSend S f k)) k' p = aSend S f k 4 0 from e] at this
          omega
        · have : aPost0 (aSend S f k) f 34 (aSend S f k 4 0) = 0 := by
            unfold aPost0 aAdd
            simp only [mw_rs, mw_rn, ne_eq, not_false_eq_true, Nat.reduceEqDiff, Nat.reduceLT, Nat.reduceLeDiff, true_or, or_true, forall_const, up1_s]
          rw [this]
          decide
    refine gV_in rfl (by unfold rng; omega) (by omega) ?_
    repeat (refine gV_s rfl (by first | exact trivial | omega) ?_)
    rw [e54]
    refine gV_i rfl (by unfold rng; omega) (fun h1 => ?_) (fun h1 => ?_)
    · repeat (refine gV_s rfl (by first | exact trivial | omega) ?_)
      rw [e52]
      refine gV_i rfl (by unfold rng; omega) (fun h2 => ?_) (fun h2 => ?_)
      · refine gV_s rfl trivial (gV_s rfl trivial ?_)
        exact tail 1 (Or.inl ⟨rfl, Or.inr (Or.inl h2)⟩)
      · repeat (refine gV_s rfl (by first | exact trivial | omega) ?_)
        refine gV_cV (ok_held (d := d) (M := M) (b := bkO S f) (P := fun r M' => r = vI (aSend S f k 22 (bkO S f)) ∧ M' = M) hMM (by unfold rng; omega) ⟨by rw [ehd], rfl⟩) mX7_held_ok sX7_X7_held rfl rfl rfl rfl rfl rfl ?_
        rintro r M' ⟨rfl, rfl⟩
        refine gV_i rfl (by unfold rng; omega) (fun h3 => ?_) (fun h3 => ?_)
        · refine gV_s rfl trivial ?_
          exact tail 0 (Or.inr ⟨rfl, by omega⟩)
        · refine gV_s rfl trivial (gV_s rfl trivial ?_)
          exact tail 1 (Or.inl ⟨rfl, Or.inr (Or.inr (by omega))⟩)
    · refine gV_s rfl trivial (gV_s rfl trivial ?_)
      exact tail 1 (Or.inl ⟨rfl, Or.inl h1⟩)
theorem ok_mSend {d : Nat} {S M : Mem} {B f x : Int} (h : NI S) (hf : rng f) (hx : rng x) (hR : RM S M B) (hB : B + 1700000 ≤ 2000000000) : gOk mX7_send (d + 2) [vR 47, vI f, vI x] M (dM (oSend S f x) M B) := by
  have hMM := MR_of h hR (by omega)
  have hF := h.1.2.1
  have hn := h.1.2.2.1
  refine gOk_of mX7_send_ok (by simp) (Nat.le_of_ble_eq_true rfl) ?_
  repeat (refine gV_s rfl (by first | exact trivial | omega) ?_)
  refine gV_cV (ok_isFlow (d := d) (M := M) hMM hf) mX7_isFlow_ok sX7_X7_isFlow rfl rfl rfl rfl rfl rfl ?_
  rintro r M' ⟨rfl, ⟨h1, rfl⟩ | ⟨h1, rfl⟩⟩
  · rw [hR.s10] at h1
    refine gV_in rfl (by unfold rng; omega) (by omega) ?_
    repeat (refine gV_s rfl (by first | exact trivial | omega) ?_)
    refine gV_cS (ok_in (d := d + 1) (M := M') hx (by unfold rng; omega) (by unfold rng; omega)) mX7_in_ok sX7_X7_in rfl rfl rfl rfl ?_
    rintro r M'' ⟨rfl, ⟨h2, rfl⟩ | ⟨h2, rfl⟩⟩
    · refine gV_in rfl (by unfold rng; omega) (by omega) ?_
      repeat (refine gV_s rfl (by first | exact trivial | omega) ?_)
      rw [hR.s16]
      refine gV_i rfl (by unfold rng; omega) (fun h3 => ?_) (fun h3 => ?_)
      · repeat (refine gV_s rfl (by first | exact trivial | omega) ?_)
        refine gV_cV (ok_bucketNow (d := d + 1) (M := M'') (f := f) (P := fun r M' => r = vI (bkO S f) ∧ M' = M'') hMM h1.1 (by omega) ⟨by rw [bkM_eq h hR], rfl⟩) mX7_bucketNow_ok sX7_X7_bucketNow rfl rfl rfl rfl rfl rfl ?_
        rintro r M4 ⟨rfl, rfl⟩
        repeat (refine gV_s rfl (by first | exact trivial | omega) ?_)
        refine msend_loop (d := d + 1) (B := B) (M0 := M4) h h1.1 h1.2 h2 (by omega) hB (fun M2 a b => dMP (by unfold oSend; rw [if_pos h1, if_pos h2, if_neg (by omega)]) (RM_B a (by omega)) b) x.toNat 0 M4 none none (by omega) (RM_B hR (by omega)) Fr.rf
      · repeat (refine gV_s rfl (by first | exact trivial | omega) ?_)
        exact gV_ret rfl trivial (dM0 (by unfold oSend; rw [if_pos h1, if_pos h2, if_pos (by omega)]) hR)
    · refine gV_it rfl (by unfold rng; omega) rfl ?_
      repeat (refine gV_s rfl (by first | exact trivial | omega) ?_)
      exact gV_ret rfl trivial (dM0 (by unfold oSend; rw [if_pos h1, if_neg h2]) hR)
  · rw [hR.s10] at h1
    refine gV_it rfl (by unfold rng; omega) rfl ?_
    repeat (refine gV_s rfl (by first | exact trivial | omega) ?_)
    exact gV_ret rfl trivial (dM0 (by unfold oSend; rw [if_neg h1]) hR)
theorem ok_mDrop {d : Nat} {S M : Mem} {B b : Int} (h : NI S) (hb : rng b) (hR : RM S M B) : gOk mX7_drop (d + 2) [vR 47, vI b] M (dM (oDrop S b) M B) := by
  have hbk := AI_bk h b
  have hJ := h.2.2.1 b
  have e53 : M 53 b = S 20 b := by rw [hR.e53]
  refine gOk_of mX7_drop_ok (by simp) (Nat.le_of_ble_eq_true rfl) ?_
  repeat (refine gV_s rfl (by first | exact trivial | omega) ?_)
  refine gV_cS (ok_isBucket (d := d) (M := M) hb) mX7_isBucket_ok sX7_X7_isBucket rfl rfl rfl rfl ?_
  rintro r M' ⟨rfl, ⟨h1, rfl⟩ | ⟨h1, rfl⟩⟩
  · refine gV_in rfl (by unfold rng; omega) (by omega) ?_
    repeat (refine gV_s rfl (by first | exact trivial | omega) ?_)
    rw [e53]
    refine gV_i rfl (by unfold rng; omega) (fun h2 => ?_) (fun h2 => ?_)
    · have hon : S 19 b = -6 ∨ S 9 (S 19 b) = 1 := by
        rcases hJ.1 with q | ⟨q1, q2, q3 | q3⟩
        · exact Or.inl q
        · exact Or.inr q3
        · omega
      have hE1 : Ex [19, 20, 21, 23] (mw (mw S 20 b (-6)) 21 b 0) S := Ex.skip1 (Ex.skip1 Ex.rf (by decide)) (by decide)
      repeat (refine gV_s rfl (by first | exact trivial | omega) ?_)
      refine gV_cV (ok_lets (d := d) (b := b) (B := B) (S := mw (mw S 20 b (-6)) 21 b 0) h hE1 h1.1 h1.2 (by rw [mw_rn _ _ _ (by decide), mw_rn _ _ _ (by decide)]; exact hon) (RM_w (RM_w hR (by simp)) (by simp))) mX7_lets_ok sX7_X7_lets rfl rfl rfl rfl rfl rfl ?_
      rintro r M2 ⟨rfl, hR2, hF2⟩
      refine gV_ret rfl trivial (dMP (by unfold oDrop; rw [if_pos h1, if_neg (by omega)]; unfold aCancel; rw [rel_lets]) (RM_B hR2 (by omega)) (Fr.tr (Fr.w (Fr.w Fr.rf (by decide)) (by decide)) hF2))
    · repeat (refine gV_s rfl (by first | exact trivial | omega) ?_)
      exact gV_ret rfl trivial (dM0 (by unfold oDrop; rw [if_pos h1, if_pos (by omega)]) hR)
  · refine gV_it rfl (by unfold rng; omega) rfl ?_
    repeat (refine gV_s rfl (by first | exact trivial | omega) ?_)
    exact gV_ret rfl trivial (dM0 (by unfold oDrop; rw [if_neg h1]) hR)
theorem move2_eq {S : Mem} {lo : Int → Int} {b l : Int} (h : AI S lo (-1)) (b0 : 0 ≤ b) (l0 : 0 ≤ l) (l4 : l < 4) (hon : S 19 b ≠ -6) (ht : S 20 b = -6) (hh : S 21 b = 0) : aReach (aMv0 S b l 2) b l = mw (mw S 19 b l) 23 b (S 23 b + 1) := by
  have hfree := no_held h hh hon
  unfold aReach
  rw [rel_lets]
  have e33 : mw (aRch0 (aMv0 S b l 2) b l) 21 b 0 33 = S 33 := by rw [mw_rn _ _ _ (by decide), aRch0_o _ _ _ (by decide) (by decide) (by decide)]; unfold aMv0; simp only [mw_rn, ne_eq, not_false_eq_true, Nat.reduceEqDiff, Nat.reduceLT, Nat.reduceLeDiff, true_or, or_true, forall_const]
  have e34 : mw (aRch0 (aMv0 S b l 2) b l) 21 b 0 34 = S 34 := by rw [mw_rn _ _ _ (by decide), aRch0_o _ _ _ (by decide) (by decide) (by decide)]; unfold aMv0; simp only [mw_rn, ne_eq, not_false_eq_true, Nat.reduceEqDiff, Nat.reduceLT, Nat.reduceLeDiff, true_or, or_true, forall_const]
  have e4 : mw (aRch0 (aMv0 S b l 2) b l) 21 b 0 4 = S 4 := by rw [mw_rn _ _ _ (by decide), aRch0_o _ _ _ (by decide) (by decide) (by decide)]; unfold aMv0; simp only [mw_rn, ne_eq, not_false_eq_true, Nat.reduceEqDiff, Nat.reduceLT, Nat.reduceLeDiff, true_or, or_true, forall_const]
  have h4 := h.1.2.2.1
  have e : aLetsO (mw (aRch0 (aMv0 S b l 2) b l) 21 b 0) b = mw (aRch0 (aMv0 S b l 2) b l) 21 b 0 := by
    unfold aLetsO
    split
    · rfl
    · refine aLets_none _ (fun i i0 i1 q => ?_)
      rw [e33, e34] at q
      rw [e4] at i1
      exact hfree i i0 (by omega) q.1 q.2
  rw [e]
  have c20 : aMv0 S b l 2 20 b = l := by unfold aMv0; simp only [mw_rs, mw_rn, ne_eq, not_false_eq_true, Nat.reduceEqDiff, Nat.reduceLT, Nat.reduceLeDiff, true_or, or_true, forall_const, up1_s]
  have c23 : aMv0 S b l 2 23 b = S 23 b := by unfold aMv0; simp only [mw_rn, ne_eq, not_false_eq_true, Nat.reduceEqDiff, Nat.reduceLT, Nat.reduceLeDiff, true_or, or_true, forall_const]
  unfold aRch0
  rw [c20, if_neg (by omega), c23]
  unfold aMv0
  rw [if_neg (by decide)]
  refine mem_ext (fun r => ?_)
  by_cases r21 : r = 21
  · subst r21
    simp only [mw_rs, mw_rn, ne_eq, not_false_eq_true, Nat.reduceEqDiff, Nat.reduceLT, Nat.reduceLeDiff, true_or, or_true, forall_const, up1_up1]
    rw [← hh, up1_id]
  · by_cases r20 : r = 20
    · subst r20
      simp only [mw_rs, mw_rn, ne_eq, not_false_eq_true, Nat.reduceEqDiff, Nat.reduceLT, Nat.reduceLeDiff, true_or, or_true, forall_const, up1_up1]
      rw [← ht, up1_id]
    · by_cases r19 : r = 19
      · subst r19
        simp only [mw_rs, mw_rn, ne_eq, not_false_eq_true, Nat.reduceEqDiff, Nat.reduceLT, Nat.reduceLeDiff, true_or, or_true, forall_const]
      · by_cases r23 : r = 23
        · subst r23
          simp only [mw_rs, mw_rn, ne_eq, not_false_eq_true, Nat.reduceEqDiff, Nat.reduceLT, Nat.reduceLeDiff, true_or, or_true, forall_const]
        · rw [mw_rn _ _ _ r21, mw_rn _ _ _ r19, mw_rn _ _ _ r20, mw_rn _ _ _ r23, mw_rn _ _ _ r21, mw_rn _ _ _ r20, mw_rn _ _ _ r23, mw_rn _ _ _ r19]
theorem ok_mMove {d : Nat} {S M : Mem} {B b l how : Int} (h : NI S) (hb : rng b) (hl : rng l) (hh : rng how) (hR : RM S M B) (hB : B + 1700000 ≤ 2000000000) : gOk mX7_move (d + 3) [vR 47, vI b, vI l, vI how] M (dM (oMove S b l how) M B) := by
  have hMM := MR_of h hR (by omega)
  have hL := h.1.1
  have hno := h.1.2.2.2.2.1
  have e52 : M 52 b = S 19 b := by rw [hR.e52]
  have e53 : M 53 b = S 20 b := by rw [hR.e53]
  have e54 : M 54 b = S 21 b := by rw [hR.e54]
  have e50 : M 50 l = S 9 l := by rw [hR.e50]
  have e15 : M 47 15 = S 5 1 := hR.s15
  refine gOk_of mX7_move_ok (by simp) (Nat.le_of_ble_eq_true rfl) ?_
  repeat (refine gV_s rfl (by first | exact trivial | omega) ?_)
  refine gV_cS (ok_isBucket (d := d + 1) (M := M) hb) mX7_isBucket_ok sX7_X7_isBucket rfl rfl rfl rfl ?_
  rintro r M' ⟨rfl, ⟨h1, rfl⟩ | ⟨h1, rfl⟩⟩
  · refine gV_in rfl (by unfold rng; omega) (by omega) ?_
    repeat (refine gV_s rfl (by first | exact trivial | omega) ?_)
    refine gV_cV (ok_isLink (d := d + 1) (M := M') hMM hl) mX7_isLink_ok sX7_X7_isLink rfl rfl rfl rfl rfl rfl ?_
    rintro r M'' ⟨rfl, ⟨h2, rfl⟩ | ⟨h2, rfl⟩⟩
    · rw [hR.s1] at h2
      refine gV_in rfl (by unfold rng; omega) (by omega) ?_
      repeat (refine gV_s rfl (by first | exact trivial | omega) ?_)
      refine gV_cS (ok_in (d := d + 2) (M := M'') hh (by unfold rng; omega) (by unfold rng; omega)) mX7_in_ok sX7_X7_in rfl rfl rfl rfl ?_
      rintro r M' ⟨rfl, ⟨h3, rfl⟩ | ⟨h3, rfl⟩⟩
      · refine gV_in rfl (by unfold rng; omega) (by omega) ?_
        have hbk := AI_bk h b
        have hJ := h.2.2.1 b
        have hup := h.2.1.2.1 l
        have e0 : oMove S b l how = (if S 19 b = -6 ∨ S 20 b ≠ -6 ∨ S 21 b ≠ 0 then (-3, S) else (if S 9 l = 0 ∨ S 19 b = l ∨ (how = 2 ∧ S 5 1 = 0) then (-5, S) else (if aMove S b l how 20 b = -6 then 1 else 0, aMove S b l how))) := by unfold oMove; rw [if_pos ⟨h1, h2⟩, if_pos h3]
        rw [e0]
        repeat (refine gV_s rfl (by first | exact trivial | omega) ?_)
        rw [e52]
        refine gV_i rfl (by unfold rng; omega) (fun h4 => ?_) (fun h4 => ?_)
        · repeat (refine gV_s rfl (by first | exact trivial | omega) ?_)
          exact gV_ret rfl trivial (dM0 (by rw [if_pos (Or.inl h4)]) hR)
        · repeat (refine gV_s rfl (by first | exact trivial | omega) ?_)
          rw [e53]
          refine gV_i rfl (by unfold rng; omega) (fun h5 => ?_) (fun h5 => ?_)
          · repeat (refine gV_s rfl (by first | exact trivial | omega) ?_)
            exact gV_ret rfl trivial (dM0 (by rw [if_pos (Or.inr (Or.inl (by omega)))]) hR)
          · repeat (refine gV_s rfl (by first | exact trivial | omega) ?_)
            rw [e54]
            refine gV_i rfl (by unfold rng; omega) (fun h6 => ?_) (fun h6 => ?_)
            · have ht : S 20 b = -6 := by omega
              rw [if_neg (by omega)]
              repeat (refine gV_s rfl (by first | exact trivial | omega) ?_)
              rw [e50]
              refine gV_i rfl (by unfold rng; omega) (fun h7 => ?_) (fun h7 => ?_)
              · repeat (refine gV_s rfl (by first | exact trivial | omega) ?_)
                exact gV_ret rfl trivial (dM0 (by rw [if_pos (Or.inl h7)]) hR)
              · have hu : S 9 l = 1 := by omega
                repeat (refine gV_s rfl (by first | exact trivial | omega) ?_)
                rw [e52]
                refine gV_i rfl (by unfold rng; omega) (fun h8 => ?_) (fun h8 => ?_)
                · repeat (refine gV_s rfl (by first | exact trivial | omega) ?_)
                  exact gV_ret rfl trivial (dM0 (by rw [if_pos (Or.inr (Or.inl h8))]) hR)
                · have h10 := AI_mv0 (how := how) h h1.1 h1.2 hu h4 h8 h6
                  have c20 : aMv0 S b l how 20 b = l := by unfold aMv0; simp only [mw_rs, mw_rn, ne_eq, not_false_eq_true, Nat.reduceEqDiff, Nat.reduceLT, Nat.reduceLeDiff, true_or, or_true, forall_const, up1_s]
                  have c9 : aMv0 S b l how 9 = S 9 := by unfold aMv0; simp only [mw_rn, ne_eq, not_false_eq_true, Nat.reduceEqDiff, Nat.reduceLT, Nat.reduceLeDiff, true_or, or_true, forall_const]
                  have c19 : aMv0 S b l how 19 = S 19 := by unfold aMv0; simp only [mw_rn, ne_eq, not_false_eq_true, Nat.reduceEqDiff, Nat.reduceLT, Nat.reduceLeDiff, true_or, or_true, forall_const]
                  have cg : goal (aMv0 S b l how) b = l := by unfold goal; rw [c20, if_neg (by omega)]
                  have settles : ∀ v : Int, v = (if how = 1 then 1 else 0) → how ≠ 2 → gV mX7_move (d + 3) (dM (if aMove S b l how 20 b = -6 then 1 else 0, aMove S b l how) M' B) 141 [vR 47, vI b, vI l, vI how] [vI v, vI b, vR 54] (mw M' 53 b l) := by
                    intro v hv hne
                    have hR1 : RM (aMv0 S b l how) (mw (mw M' 53 b l) 54 b v) B := by
                      unfold aMv0
                      rw [hv]
                      exact RM_w (RM_w hR (by simp)) (by simp)
                    repeat (refine gV_s rfl (by first | exact trivial | omega) ?_)
                    refine gV_cV (ok_settleM (d := d) (B := B) (b := b) h10 h1.1 h1.2 hR1 (by omega) (by rw [cg]; omega) (by rw [cg, c9, c19]; exact ⟨hu, h4⟩)) mX7_settle_ok sX7_X7_settle rfl rfl rfl rfl rfl rfl ?_
                    rintro r M2 ⟨rfl, hR2, hF2⟩
                    have em : aMove S b l how = aSettle (aMv0 S b l how) b := by unfold aMove; rw [if_neg hne]
                    rw [em]
                    have ev : (if may (aMv0 S b l how) b (goal (aMv0 S b l how) b) = true then (1 : Int) else 0) = (if aSettle (aMv0 S b l how) b 20 b = -6 then 1 else 0) := by
                      by_cases hm : may (aMv0 S b l how) b (goal (aMv0 S b l how) b) = true
                      · rw [if_pos hm, if_pos]
                        unfold aSettle
                        rw [if_pos ⟨by rw [cg]; omega, hm⟩, aReach_20 _ _ _ (by rw [cg]; omega), up1_s]
                      · rw [if_neg hm, if_neg]
                        unfold aSettle
                        rw [if_neg (fun q => hm q.2), c20]
                        omega
                    rw [ev]
                    exact gV_ret rfl trivial (dMP rfl (RM_B hR2 (by omega)) (Fr.tr (Fr.w (Fr.w Fr.rf (by decide)) (by decide)) hF2))
                  have fin : ¬ (how = 2 ∧ S 5 1 = 0) → gV mX7_move (d + 3) (dM (if S 9 l = 0 ∨ S 19 b = l ∨ how = 2 ∧ S 5 1 = 0 then (-5, S) else (if aMove S b l how 20 b = -6 then 1 else 0, aMove S b l how)) M' B) 95 [vR 47, vI b, vI l, vI how] [] M' := by
                    intro h9
                    rw [if_neg (by omega)]
                    repeat (refine gV_s rfl (by first | exact trivial | omega) ?_)
                    refine gV_i rfl (by unfold rng; omega) (fun h11 => ?_) (fun h11 => ?_)
                    · subst h11
                      have em : aMove S b l 2 = mw (mw S 19 b l) 23 b (S 23 b + 1) := by unfold aMove; rw [if_pos rfl, move2_eq h h1.1 h2.1 (by omega) h4 ht h6]
                      rw [em, if_pos (by rw [mw_rn _ _ _ (by decide), mw_rn _ _ _ (by decide)]; exact ht)]
                      repeat (refine gV_s rfl (by first | exact trivial | omega) ?_)
                      simp only [mw_rn, ne_eq, not_false_eq_true, Nat.reduceEqDiff, Nat.reduceLT, Nat.reduceLeDiff, true_or, or_true, forall_const]
                      refine gV_ret rfl trivial (dMP rfl (RM_B ?_ (show B ≤ B + 1700000 by omega)) (Fr.w (Fr.w Fr.rf (by decide)) (by decide)))
                      rw [show M' 55 b = S 23 b by rw [hR.e55]]
                      exact RM_w (RM_w hR (by simp)) (by simp)
                    · repeat (refine gV_s rfl (by first | exact trivial | omega) ?_)
                      refine gV_i rfl (by unfold rng; omega) (fun h12 => ?_) (fun h12 => ?_)
                      · refine gV_s rfl trivial (gV_s rfl trivial ?_)
                        exact settles 1 (by rw [if_pos h12]) h11
                      · refine gV_s rfl trivial ?_
                        exact settles 0 (by rw [if_neg h12]) h11
                  repeat (refine gV_s rfl (by first | exact trivial | omega) ?_)
                  refine gV_i rfl (by unfold rng; omega) (fun h9 => ?_) (fun h9 => ?_)
                  · repeat (refine gV_s rfl (by first | exact trivial | omega) ?_)
                    rw [e15]
                    refine gV_i rfl (by unfold rng; omega) (fun h10 => ?_) (fun h10 => ?_)
                    · repeat (refine gV_s rfl (by first | exact trivial | omega) ?_)
                      exact gV_ret rfl trivial (dM0 (by rw [if_pos (Or.inr (Or.inr ⟨h9, h10⟩))]) hR)
                    · exact fin (by omega)
                  · exact fin (by omega)
            · repeat (refine gV_s rfl (by first | exact trivial | omega) ?_)
              exact gV_ret rfl trivial (dM0 (by rw [if_pos (Or.inr (Or.inr h6))]) hR)
      · refine gV_it rfl (by unfold rng; omega) rfl ?_
        repeat (refine gV_s rfl (by first | exact trivial | omega) ?_)
        exact gV_ret rfl trivial (dM0 (by unfold oMove; rw [if_pos ⟨h1, h2⟩, if_neg h3]) hR)
    · rw [hR.s1] at h2
      refine gV_it rfl (by unfold rng; omega) rfl ?_
      repeat (refine gV_s rfl (by first | exact trivial | omega) ?_)
      exact gV_ret rfl trivial (dM0 (by unfold oMove; rw [if_neg (fun q => h2 q.2)]) hR)
  · refine gV_it rfl (by unfold rng; omega) rfl ?_
    repeat (refine gV_s rfl (by first | exact trivial | omega) ?_)
    exact gV_ret rfl trivial (dM0 (by unfold oMove; rw [if_neg (fun q => h1 q.1)]) hR)
end
section
/-! The reference: a link fails. -/
theorem aLoK_st {S : Mem} {l : Int} (l0 : 0 ≤ l) (l4 : l < 4) : ∀ (k : Nat) (i : Int), ((∃ p, S 15 l ≤ p ∧ p < S 15 l + k ∧ qr S l p = i) → aLoK S l k 34 i = 5 ∧ aLoK S l k 39 i = S 5 0) ∧ ((∀ p, S 15 l ≤ p → p < S 15 l + k → qr S l p ≠ i) → aLoK S l k 34 i = S 34 i ∧ aLoK S l k 39 i = S 39 i)
  | 0, i => ⟨fun ⟨p, a, b, _⟩ => by omega, fun _ => ⟨rfl, rfl⟩⟩
  | k + 1, i => by
    obtain ⟨h1, h2⟩ := aLoK_st (S := S) l0 l4 k i
    have e15 : aLoK S l k 15 l = S 15 l + k := by rw [aLoK_15, up1_s]
    have eq : qr (aLoK S l k) l (aLoK S l k 15 l) = qr S l (S 15 l + k) := by
      show aLoK S l k (11 + l.toNat) (aLoK S l k 15 l) = S (11 + l.toNat) (S 15 l + k)
      rw [e15, aLoK_o S l (by omega) (by omega) (by omega) (by omega) (by omega) (by omega)]
    have e5 : aLoK S l k 5 = S 5 := aLoK_o S l (by decide) (by decide) (by decide) (by decide) (by decide) (by decide) k
    rw [aLoK, aLo_34, aLo_39, eq, e5]
    by_cases e : i = qr S l (S 15 l + k)
    · subst e
      rw [up1_s, up1_s]
      exact ⟨fun _ => ⟨rfl, rfl⟩, fun q => absurd rfl (q (S 15 l + k) (by omega) (by push_cast; omega))⟩
    · rw [up1_n _ _ e, up1_n _ _ e]
      refine ⟨fun ⟨p, a, b, c⟩ => h1 ⟨p, a, ?_, c⟩, fun q => h2 (fun p a b => q p a (by push_cast; omega))⟩
      push_cast at b
      by_cases e2 : p = S 15 l + k
      · subst e2; exact absurd c.symm e
      · omega
def goneP (S : Mem) (l : Int) : Int → Bool := fun i => decide (S 35 i = l ∧ (S 34 i = 1 ∨ S 34 i = 2))
theorem lose_st {S : Mem} {lo : Int → Int} {x l : Int} (h : AI S lo x) (l0 : 0 ≤ l) (l4 : l < 4) (i : Int) : ((0 ≤ i ∧ i < S 4 0 ∧ goneP S l i = true) → aLose S l 34 i = 5 ∧ aLose S l 39 i = S 5 0) ∧ (¬ (0 ≤ i ∧ i < S 4 0 ∧ goneP S l i = true) → aLose S l 34 i = S 34 i ∧ aLose S l 39 i = S 39 i) := by
  obtain ⟨q1, q4, q5, q6, q7⟩ := h.2.2.2.2.2.2.2.2.2.2.2.1 l l0 l4
  obtain ⟨h1, h2⟩ := aLoK_st (S := S) l0 l4 (loN S l) i
  have hN : ((loN S l : Nat) : Int) = S 17 l - S 15 l := by unfold loN; omega
  refine ⟨fun ⟨i0, i1, i2⟩ => h1 ?_, fun hc => h2 (fun p a b e => hc ?_)⟩
  · unfold goneP at i2
    simp only [decide_eq_true_eq] at i2
    rcases h.2.2.2.2.2.2.2.2.2.2.2.2.1 i i0 i1 with q | ⟨a1, a2, a3, p, a4, a5, a6⟩
    · omega
    · rw [i2.1] at a5 a6
      have hp := q4 p a4 a5
      rw [show (qr S) l p = i from a6] at hp
      refine ⟨p, ?_, by omega, a6⟩
      by_cases c : p < S 15 l
      · have := hp.2.1 c; omega
      · omega
  · have hp := q4 p (by omega) (by omega)
    rw [show (qr S) l p = i from e] at hp
    refine ⟨hp.1.1, hp.1.2.1, ?_⟩
    unfold goneP
    simp only [decide_eq_true_eq]
    refine ⟨hp.1.2.2, ?_⟩
    by_cases c : p < S 16 l
    · exact Or.inr (hp.2.2.1 a c).1
    · exact Or.inl (hp.2.2.2 (by omega))
theorem RM_lose {S M M' : Mem} {lo : Int → Int} {x B l : Int} (h : AI S lo x) (l0 : 0 ≤ l) (l4 : l < 4) (hR : RM S M B) (hM : ∀ r, r ≠ 61 → r ≠ 66 → M' r = M r) (h61 : M' 61 = aLose S l 34) (h66 : M' 66 = aLose S l 39) : RM (aLose S l) M' B := by
  obtain ⟨q1, q4, q5, q6, q7⟩ := h.2.2.2.2.2.2.2.2.2.2.2.1 l l0 l4
  have hN : ((loN S l : Nat) : Int) = S 17 l - S 15 l := by unfold loN; omega
  have eo : ∀ r, r ≠ 34 → r ≠ 41 → r ≠ 39 → r ≠ 28 → r ≠ 16 → r ≠ 15 → aLose S l r = S r := fun r a b c d e f => aLoK_o S l a b c d e f _
  have hA : AI (aLose S l) lo x := AI_loK h l0 l4 (loN S l) (by omega)
  have e41 : aLose S l 41 4 = S 41 4 := by
    rw [hA.2.2.2.2.2.2.2.1 4 (by decide) (by decide), h.2.2.2.2.2.2.2.1 4 (by decide) (by decide), eo 4 (by decide) (by decide) (by decide) (by decide) (by decide) (by decide)]
    refine ct_cong (fun j j0 j1 => ?_)
    obtain ⟨a1, a2⟩ := lose_st h l0 l4 j
    by_cases c : 0 ≤ j ∧ j < S 4 0 ∧ goneP S l j = true
    · have c2 := c.2.2
      unfold goneP at c2
      simp only [decide_eq_true_eq] at c2
      rw [(a1 c).1]
      rcases c2.2 with w | w
      · rw [w]; decide
      · rw [w]; decide
    · rw [(a2 c).1]
  have e15 : aLose S l 15 = up1 (S 15) l (S 17 l) := by
    show aLoK S l (loN S l) 15 = _
    rw [aLoK_15, hN]
    congr 1
    omega
  have e16 : aLose S l 16 = up1 (S 16) l (S 17 l) := by
    show aLoK S l (loN S l) 16 = _
    rw [aLoK_16 q1.2.1, hN]
    congr 1
    split <;> omega
  obtain ⟨⟨e48, e49, e50, e51, e52, e53, e54, e55, e56, e57, e58, e59, e60, e61, e62, e63, e64, e65, e66, e69, e70⟩, ⟨t1, t2, t3, t4, t5, t6, t7, t8, t9⟩, hT⟩ := hR
  refine ⟨?_, ?_, ?_⟩
  · unfold Rr
    simp only [h61, h66, hM, eo, ne_eq, not_false_eq_true, Nat.reduceEqDiff, Nat.reduceLT, Nat.reduceLeDiff, true_or, or_true, forall_const]
    simp only [e48, e49, e50, e51, e52, e53, e54, e55, e56, e57, e58, e59, e60, e62, e63, e64, e65, e69, e70, and_self]
  · unfold Rs
    simp only [hM, eo, e41, ne_eq, not_false_eq_true, Nat.reduceEqDiff, Nat.reduceLT, Nat.reduceLeDiff, true_or, or_true, forall_const]
    exact ⟨t1, t2, t3, t4, t5, t6, t7, t8, t9⟩
  · simp only [hM, eo, ne_eq, not_false_eq_true, Nat.reduceEqDiff, Nat.reduceLT, Nat.reduceLeDiff, true_or, or_true, forall_const]
    rw [e15, e16]
    obtain ⟨g1, g2, g3⟩ := hT
    refine ⟨g1, g2, fun k k0 k4 => ?_⟩
    have er : ∀ p, qr (aLose S l) k p = qr S k p := fun p => by
      show aLose S l (11 + k.toNat) p = _
      rw [eo _ (by omega) (by omega) (by omega) (by omega) (by omega) (by omega)]
    simp only [er]
    by_cases e : k = l
    · subst e
      rw [up1_s, up1_s]
      exact ⟨fun p a b => by omega, fun p p' a b c => by omega, fun p a b => by omega, fun p p' a b c => by omega⟩
    · rw [up1_n _ _ e, up1_n _ _ e]
      exact g3 k k0 k4
def r50 (S M : Mem) : Mem := fun r => if r = 50 then S 9 else M r
theorem r50_o {S M : Mem} {r : Nat} (h : r ≠ 50) : r50 S M r = M r := by unfold r50; rw [if_neg h]
theorem r50_s {S M : Mem} : r50 S M 50 = S 9 := by unfold r50; rw [if_pos rfl]
theorem RM_un {S M : Mem} {B l v : Int} (hR : RM (mw S 9 l v) M B) : RM S (r50 S M) B := by
  obtain ⟨⟨e48, e49, e50, e51, e52, e53, e54, e55, e56, e57, e58, e59, e60, e61, e62, e63, e64, e65, e66, e69, e70⟩, ⟨t1, t2, t3, t4, t5, t6, t7, t8, t9⟩, hT⟩ := hR
  simp only [mw_rn, ne_eq, not_false_eq_true, Nat.reduceEqDiff, Nat.reduceLT, Nat.reduceLeDiff, true_or, or_true, forall_const] at e48 e49 e51 e52 e53 e54 e55 e56 e57 e58 e59 e60 e61 e62 e63 e64 e65 e66 e69 e70 t1 t2 t3 t4 t5 t6 t7 t8 t9 hT
  refine ⟨?_, ?_, ?_⟩
  · unfold Rr
    simp only [r50_o, r50_s, ne_eq, not_false_eq_true, Nat.reduceEqDiff, Nat.reduceLT, Nat.reduceLeDiff, true_or, or_true, forall_const]
    simp only [e48, e49, e51, e52, e53, e54, e55, e56, e57, e58, e59, e60, e61, e62, e63, e64, e65, e66, e69, e70, and_self]
  · unfold Rs
    simp only [r50_o, ne_eq, not_false_eq_true, Nat.reduceEqDiff, Nat.reduceLT, Nat.reduceLeDiff, true_or, or_true, forall_const]
    exact ⟨t1, t2, t3, t4, t5, t6, t7, t8, t9⟩
  · simp only [r50_o, ne_eq, not_false_eq_true, Nat.reduceEqDiff, Nat.reduceLT, Nat.reduceLeDiff, true_or, or_true, forall_const]
    exact Rt_rw hT (fun k p k0 k4 => (mwq (by omega) _ _ k0 k4).symm)
theorem RM_lose9 {S M M' : Mem} {lo : Int → Int} {x B l v : Int} (h : AI S lo x) (l0 : 0 ≤ l) (l4 : l < 4) (hR : RM (mw S 9 l v) M B) (hM : ∀ r, r ≠ 61 → r ≠ 66 → M' r = M r) (h61 : M' 61 = aLose S l 34) (h66 : M' 66 = aLose S l 39) : RM (mw (aLose S l) 9 l v) M' B := by
  have e50 : M 50 = up1 (S 9) l v := by rw [hR.e50, mw_rs]
  have h1 : RM (aLose S l) (r50 S M') B := RM_lose h l0 l4 (RM_un hR) (fun r a b => by
    by_cases e : r = 50
    · subst e; rw [r50_s, r50_s]
    · rw [r50_o e, r50_o e, hM r a b]) (by rw [r50_o (by decide), h61]) (by rw [r50_o (by decide), h66])
  have h2 := RM_w (i := l) (v := v) h1 (rs := 9) (rm := 50) (by simp)
  have : mw (r50 S M') 50 l v = M' := mem_ext (fun r => by
    by_cases e : r = 50
    · subst e; rw [mw_rs, r50_s, hM 50 (by decide) (by decide), e50]
    · rw [mw_rn _ _ _ e, r50_o e])
  rw [this] at h2
  exact h2
theorem lose_ct {S : Mem} {lo : Int → Int} {x l : Int} (h : AI S lo x) (l0 : 0 ≤ l) (l4 : l < 4) : ct (goneP S l) (S 4 0).toNat = S 17 l - S 15 l := by
  obtain ⟨k1, k2, k3⟩ := h.2.2.2.2.2.2.2.2.2.2.1 l l0 l4
  have : ct (fun j => decide (S 34 j = 1 ∧ S 35 j = l)) (S 4 0).toNat + ct (fun j => decide (S 34 j = 2 ∧ S 35 j = l)) (S 4 0).toNat = ct (goneP S l) (S 4 0).toNat := ct_or (fun i _ _ => by
    unfold goneP bi
    by_cases a : S 35 i = l <;> by_cases b : S 34 i = 1 <;> by_cases c : S 34 i = 2 <;> simp_all)
  omega
def lsM (S M : Mem) (l : Int) (k : Nat) : Mem := fun r => if r = 61 then (fun i => if 0 ≤ i ∧ i < k ∧ goneP S l i = true then 5 else S 34 i) else if r = 66 then (fun i => if 0 ≤ i ∧ i < k ∧ goneP S l i = true then S 5 0 else S 39 i) else M r
theorem lsM_no {S M : Mem} {l : Int} {k : Nat} (hg : ¬ goneP S l k = true) : lsM S M l (k + 1) = lsM S M l k := by
  funext r i
  unfold lsM
  have : (0 ≤ i ∧ i < ((k + 1 : Nat) : Int) ∧ goneP S l i = true) ↔ (0 ≤ i ∧ i < (k : Int) ∧ goneP S l i = true) := by
    constructor
    · rintro ⟨a, b, c⟩
      by_cases e : i = k
      · subst e; exact absurd c hg
      · exact ⟨a, by push_cast at b; omega, c⟩
    · rintro ⟨a, b, c⟩
      exact ⟨a, by push_cast; omega, c⟩
  by_cases r1 : r = 61
  · subst r1
    simp only [if_true, this]
  · by_cases r2 : r = 66
    · subst r2
      simp only [Nat.reduceEqDiff, if_false, if_true, this]
    · simp only [if_neg r1, if_neg r2]
theorem lsM_yes {S M : Mem} {l : Int} {k : Nat} (hg : goneP S l k = true) : lsM S M l (k + 1) = mw (mw (lsM S M l k) 61 k 5) 66 k (S 5 0) := by
  refine mem_ext (fun r => ?_)
  by_cases r1 : r = 66
  · subst r1
    rw [mw_rs, mw_rn _ _ _ (by decide)]
    funext i
    rw [up1_e]
    unfold lsM
    simp only [Nat.reduceEqDiff, if_false, if_true]
    by_cases e : i = k
    · subst e
      rw [if_pos ⟨by omega, by push_cast; omega, hg⟩, if_pos rfl]
    · rw [if_neg e]
      have : (0 ≤ i ∧ i < ((k + 1 : Nat) : Int) ∧ goneP S l i = true) ↔ (0 ≤ i ∧ i < (k : Int) ∧ goneP S l i = true) := by push_cast; constructor <;> (rintro ⟨a, b, c⟩; exact ⟨a, by omega, c⟩)
      simp only [this]
  · by_cases r2 : r = 61
    · subst r2
      rw [mw_rn _ _ _ (by decide), mw_rs]
      funext i
      rw [up1_e]
      unfold lsM
      simp only [if_true]
      by_cases e : i = k
      · subst e
        rw [if_pos ⟨by omega, by push_cast; omega, hg⟩, if_pos rfl]
      · rw [if_neg e]
        have : (0 ≤ i ∧ i < ((k + 1 : Nat) : Int) ∧ goneP S l i = true) ↔ (0 ≤ i ∧ i < (k : Int) ∧ goneP S l i = true) := by push_cast; constructor <;> (rintro ⟨a, b, c⟩; exact ⟨a, by omega, c⟩)
        simp only [this]
    · rw [mw_rn _ _ _ r1, mw_rn _ _ _ r2]
      unfold lsM
      simp only [if_neg r1, if_neg r2]
theorem lsM_o {S M : Mem} {l : Int} {k r : Nat} (h1 : r ≠ 61) (h2 : r ≠ 66) : lsM S M l k r = M r := by unfold lsM; simp only [if_neg h1, if_neg h2]
theorem lsM_61 {S M : Mem} {l : Int} {k : Nat} {i : Int} (hi : k ≤ i) : lsM S M l k 61 i = S 34 i := by
  unfold lsM
  simp only [if_true]
  rw [if_neg (by omega)]
theorem lose_loopM {d : Nat} {S M : Mem} {lo : Int → Int} {x B l v : Int} {P : PV → Mem → Prop} (h : AI S lo x) (l0 : 0 ≤ l) (l4 : l < 4) (hR : RM (mw S 9 l v) M B) {z4 z5 : PV}
    (kk : ∀ (M' : Mem) (z3 : PV), RM (mw (aLose S l) 9 l v) M' B → Fr M M' → gV mX7_fail (d + 3) P 97 [vR 47, vI l, vI (S 17 l - S 15 l), z3, z4, z5] [] M') :
    ∀ (n k : Nat), (k : Int) + n = S 4 0 → gV mX7_fail (d + 3) P 38 [vR 47, vI l, vI (ct (goneP S l) k), vI k, z4, z5] [vI (S 4 0), vI k] (lsM S M l k) := by
  have h4 := h.1.2.2.1
  intro n
  induction n with
  | zero =>
    intro k hk
    have e : k = (S 4 0).toNat := by omega
    subst e
    have ec : (((S 4 0).toNat : Nat) : Int) = S 4 0 := by omega
    rw [lose_ct h l0 l4]
    refine gV_it rfl (by unfold rng; omega) (by omega) ?_
    refine kk _ _ (RM_lose9 h l0 l4 hR (fun r a b => lsM_o a b) ?_ ?_) (fun r hr => lsM_o (by omega) (by omega))
    · funext i
      obtain ⟨a1, a2⟩ := lose_st h l0 l4 i
      unfold lsM
      simp only [if_true, ec]
      split
      · rename_i c; rw [(a1 c).1]
      · rename_i c; rw [(a2 c).1]
    · funext i
      obtain ⟨a1, a2⟩ := lose_st h l0 l4 i
      unfold lsM
      simp only [Nat.reduceEqDiff, if_false, if_true, ec]
      split
      · rename_i c; rw [(a1 c).2]
      · rename_i c; rw [(a2 c).2]
  | succ n ih =>
    intro k hk
    have ih2 := ih (k + 1) (by push_cast; omega)
    have ht := (h.2.2.2.2.2.2.1 k).2.2.2.1
    have hlk : -6 ≤ S 35 k ∧ S 35 k < 4 := by
      have hL := h.1.1
      rcases h.2.2.2.2.2.2.2.2.2.2.2.2.1 k (by omega) (by omega) with q | q
      · omega
      · omega
    rw [ct_s _ k] at ih2
    have e62 : lsM S M l k 62 k = S 35 k := by rw [lsM_o (by decide) (by decide), hR.e62, mw_rn _ _ _ (by decide)]
    have e61 : lsM S M l k 61 k = S 34 k := lsM_61 (by omega)
    have e16 : lsM S M l k 47 16 = S 4 0 := by rw [lsM_o (by decide) (by decide), hR.s16, mw_rn _ _ _ (by decide)]
    have e0 : lsM S M l k 47 0 = S 5 0 := by rw [lsM_o (by decide) (by decide), hR.s0, mw_rn _ _ _ (by decide)]
    have no : ¬ goneP S l k = true → gV mX7_fail (d + 3) P 91 [vR 47, vI l, vI (ct (goneP S l) k), vI k, z4, z5] [] (lsM S M l k) := by
      intro hg
      rw [if_neg hg, Int.add_zero, lsM_no hg] at ih2
      repeat (refine gV_s rfl (by first | exact trivial | omega) ?_)
      rw [e16]
      exact ih2
    have yes : goneP S l k = true → gV mX7_fail (d + 3) P 71 [vR 47, vI l, vI (ct (goneP S l) k), vI k, z4, z5] [] (lsM S M l k) := by
      intro hg
      rw [if_pos hg, lsM_yes hg] at ih2
      repeat (refine gV_s rfl (by first | exact trivial | omega) ?_)
      simp only [mw_rn, ne_eq, not_false_eq_true, Nat.reduceEqDiff, Nat.reduceLT, Nat.reduceLeDiff, true_or, or_true, forall_const]
      rw [e0, e16]
      exact ih2
    refine gV_in rfl (by unfold rng; omega) (by omega) ?_
    repeat (refine gV_s rfl (by first | exact trivial | omega) ?_)
    rw [e62]
    refine gV_i rfl (by unfold rng; omega) (fun h1 => ?_) (fun h1 => ?_)
    · repeat (refine gV_s rfl (by first | exact trivial | omega) ?_)
      rw [e61]
      refine gV_i rfl (by unfold rng; omega) (fun h2 => ?_) (fun h2 => ?_)
      · exact yes (by unfold goneP; simp [h1, h2])
      · repeat (refine gV_s rfl (by first | exact trivial | omega) ?_)
        rw [e61]
        refine gV_i rfl (by unfold rng; omega) (fun h3 => ?_) (fun h3 => ?_)
        · exact yes (by unfold goneP; simp [h1, h3])
        · exact no (by unfold goneP; simp [h2, h3])
    · exact no (by unfold goneP; simp [h1])
theorem can_loopF {d : Nat} {S M0 : Mem} {lo : Int → Int} {B l c : Int} {P : PV → Mem → Prop} (h : AI S lo l) (l0 : 0 ≤ l) (l4 : l < 4) (hd : S 9 l = 0) {z5 : PV}
    (kk : ∀ (M' : Mem) (z3 : Int) (z4 : PV), RM (aCan S l 8) M' (B + 3200) → Fr M0 M' → gV mX7_fail (d + 3) P 143 [vR 47, vI l, vI c, vI z3, z4, z5] [] M') :
    ∀ (n k : Nat) (M : Mem) (z4 : PV), k + n = 8 → RM (aCan S l k) M (B + 400 * k) → Fr M0 M → gV mX7_fail (d + 3) P 102 [vR 47, vI l, vI c, vI k, z4, z5] [vI 8, vI k] M := by
  intro n
  induction n with
  | zero =>
    intro k M z4 hk hR hF
    have e : k = 8 := by omega
    subst e
    exact gV_it rfl (by unfold rng; omega) (by omega) (kk M _ _ (RM_B hR (by omega)) hF)
  | succ n ih =>
    intro k M z4 hk hR hF
    obtain ⟨i1, i2, i3, i4, i5, i6⟩ := AI_can h l0 hd k (by omega)
    have hbk := AI_bk i1 k
    have hJ := i1.2.2.1 k
    have e53 : M 53 k = aCan S l k 20 k := by rw [hR.e53]
    have step : aCan S l (k + 1) = if aCan S l k 20 k = l then aCancel (aCan S l k) k else aCan S l k := rfl
    have nxt : ∀ (M' : Mem) (z4 : PV), RM (aCan S l (k + 1)) M' (B + 400 * k + 400) → Fr M0 M' → gV mX7_fail (d + 3) P 137 [vR 47, vI l, vI c, vI k, z4, z5] [] M' := by
      intro M' z4 hR' hF'
      repeat (refine gV_s rfl (by first | exact trivial | omega) ?_)
      exact ih (k + 1) M' _ (by omega) (by rw [show B + 400 * ((k + 1 : Nat) : Int) = B + 400 * k + 400 by push_cast; omega]; exact hR') hF'
    rw [step] at nxt
    refine gV_in rfl (by unfold rng; omega) (by omega) ?_
    repeat (refine gV_s rfl (by first | exact trivial | omega) ?_)
    rw [e53]
    refine gV_i rfl (by unfold rng; omega) (fun h1 => ?_) (fun h1 => ?_)
    · rw [if_pos h1] at nxt
      have hu : aCan S l k 19 k = -6 ∨ aCan S l k 9 (aCan S l k 19 k) = 1 := by
        rcases hJ.1 with q | ⟨q1, q2, q3 | q3⟩
        · exact Or.inl q
        · exact Or.inr q3
        · rcases hJ.2.1 with w | w
          · omega
          · have := w.2.2.2.2
            omega
      have hE1 : Ex [19, 20, 21, 23] (mw (mw (aCan S l k) 20 k (-6)) 21 k 0) (aCan S l k) := Ex.skip1 (Ex.skip1 Ex.rf (by decide)) (by decide)
      repeat (refine gV_s rfl (by first | exact trivial | omega) ?_)
      refine gV_cV (ok_lets (d := d + 1) (b := (k : Int)) (B := B + 400 * k) (S := mw (mw (aCan S l k) 20 k (-6)) 21 k 0) i1 hE1 (by omega) (by omega) (by rw [mw_rn _ _ _ (by decide), mw_rn _ _ _ (by decide)]; exact hu) (RM_w (RM_w hR (by simp)) (by simp))) mX7_lets_ok sX7_X7_lets rfl rfl rfl rfl rfl rfl ?_
      rintro r M2 ⟨rfl, hR2, hF2⟩
      refine gV_s rfl trivial ?_
      refine nxt M2 _ ?_ (Fr.tr (Fr.w (Fr.w hF (by decide)) (by decide)) hF2)
      unfold aCancel
      rw [rel_lets]
      exact hR2
    · rw [if_neg h1] at nxt
      exact nxt M _ (RM_B hR (by omega)) hF
theorem upF_cong {S T : Mem} (h9 : T 9 = S 9) (h19 : T 19 = S 19) : ∀ k, upF T k = upF S k
  | 0 => rfl
  | k + 1 => by unfold upF; rw [upF_cong h9 h19 k, h9, h19]
theorem best_loop {d : Nat} {T M : Mem} {lo : Int → Int} {x B l b c : Int} {P : PV → Mem → Prop} (h : AI T lo x) (hR : RM T M B) (hB : B ≤ 2000000000)
    (kk : ∀ z5 : PV, gV mX7_fail (d + 3) P 222 [vR 47, vI l, vI c, vI b, vI (upF T (T 1 0).toNat), z5] [] M) :
    ∀ (n k : Nat), (k : Int) + n = T 1 0 → gV mX7_fail (d + 3) P 174 [vR 47, vI l, vI c, vI b, vI (upF T k), vI k] [vI (T 1 0), vI k] M := by
  have hL := h.1.1
  have hMM := MR_of h hR hB
  intro n
  induction n with
  | zero =>
    intro k hk
    have e : k = (T 1 0).toNat := by omega
    subst e
    exact gV_it rfl (by unfold rng; omega) (by omega) (kk _)
  | succ n ih =>
    intro k hk
    have ih2 := ih (k + 1) (by push_cast; omega)
    have step : upF T (k + 1) = if T 9 k = 1 ∧ (upF T k < 0 ∨ ct (is_ (T 19) k) 8 < ct (is_ (T 19) (upF T k)) 8) then (k : Int) else upF T k := rfl
    rw [step] at ih2
    have hup := h.2.1.2.1 k
    have e50 : M 50 k = T 9 k := by rw [hR.e50]
    have hin := upF_in T k
    have n1 := ct_nn (is_ (T 19) k) 8
    have n2 := ct_nn (is_ (T 19) (upF T k)) 8
    have stay : ¬ (T 9 k = 1 ∧ (upF T k < 0 ∨ ct (is_ (T 19) k) 8 < ct (is_ (T 19) (upF T k)) 8)) → gV mX7_fail (d + 3) P 212 [vR 47, vI l, vI c, vI b, vI (upF T k), vI k] [] M := by
      intro hc
      rw [if_neg hc] at ih2
      repeat (refine gV_s rfl (by first | exact trivial | omega) ?_)
      rw [hR.s1]
      exact ih2
    have go : (T 9 k = 1 ∧ (upF T k < 0 ∨ ct (is_ (T 19) k) 8 < ct (is_ (T 19) (upF T k)) 8)) → gV mX7_fail (d + 3) P 207 [vR 47, vI l, vI c, vI b, vI (upF T k), vI k] [] M := by
      intro hc
      rw [if_pos hc] at ih2
      repeat (refine gV_s rfl (by first | exact trivial | omega) ?_)
      rw [hR.s1]
      exact ih2
    refine gV_in rfl (by unfold rng; omega) (by omega) ?_
    repeat (refine gV_s rfl (by first | exact trivial | omega) ?_)
    rw [e50]
    refine gV_i rfl (by unfold rng; omega) (fun h1 => ?_) (fun h1 => ?_)
    · exact stay (by omega)
    · have hu : T 9 k = 1 := by omega
      repeat (refine gV_s rfl (by first | exact trivial | omega) ?_)
      refine gV_i rfl (by unfold rng; omega) (fun h2 => ?_) (fun h2 => ?_)
      · exact go ⟨hu, Or.inl h2⟩
      · repeat (refine gV_s rfl (by first | exact trivial | omega) ?_)
        refine gV_cV (ok_bucketsOn (d := d + 2) (M := M) (l := k) (P := fun r M' => r = vI (ct (is_ (T 19) k) 8) ∧ M' = M) hMM (by unfold rng; omega) ⟨by rw [hR.e52], rfl⟩) mX7_bucketsOn_ok sX7_X7_bucketsOn rfl rfl rfl rfl rfl rfl ?_
        rintro r M' ⟨rfl, rfl⟩
        repeat (refine gV_s rfl (by first | exact trivial | omega) ?_)
        refine gV_cV (ok_bucketsOn (d := d + 2) (M := M') (l := upF T k) (P := fun r M2 => r = vI (ct (is_ (T 19) (upF T k)) 8) ∧ M2 = M') hMM (by unfold rng; omega) ⟨by rw [hR.e52], rfl⟩) mX7_bucketsOn_ok sX7_X7_bucketsOn rfl rfl rfl rfl rfl rfl ?_
        rintro r M2 ⟨rfl, rfl⟩
        refine gV_i rfl (by unfold rng; omega) (fun h3 => ?_) (fun h3 => ?_)
        · exact stay (by omega)
        · exact go ⟨hu, Or.inr (by omega)⟩
theorem mvs_loopF {d : Nat} {S M0 : Mem} {lo : Int → Int} {B l c : Int} {P : PV → Mem → Prop} (h : AI S lo l) (l0 : 0 ≤ l) (l4 : l < 4) (hd : S 9 l = 0) (ht : ∀ b, 0 ≤ b → b < 8 → S 20 b ≠ l) (hB : B + 3200 ≤ 2000000000)
    (hP : ∀ M', RM (aMvs S l 8) M' (B + 3200) → Fr M0 M' → P (vI c) M') :
    ∀ (n k : Nat) (M : Mem) (z4 z5 : PV), k + n = 8 → RM (aMvs S l k) M (B + 400 * k) → Fr M0 M → gV mX7_fail (d + 3) P 148 [vR 47, vI l, vI c, vI k, z4, z5] [vI 8, vI k] M := by
  intro n
  induction n with
  | zero =>
    intro k M z4 z5 hk hR hF
    have e : k = 8 := by omega
    subst e
    refine gV_it rfl (by unfold rng; omega) (by omega) ?_
    repeat (refine gV_s rfl (by first | exact trivial | omega) ?_)
    exact gV_ret rfl trivial (hP M (RM_B hR (by omega)) hF)
  | succ n ih =>
    intro k M z4 z5 hk hR hF
    obtain ⟨i1, i2, i3, i4, i5, i6⟩ := AI_mvs h l0 hd ht k (by omega)
    have hL := i1.1.1
    have hbk := AI_bk i1 k
    have hJ := i1.2.2.1 k
    have e52 : M 52 k = aMvs S l k 19 k := by rw [hR.e52]
    have step : aMvs S l (k + 1) = if aMvs S l k 19 k = l then aMv1 (aMvs S l k) k else aMvs S l k := rfl
    have nxt : ∀ (M' : Mem) (z4 z5 : PV), RM (aMvs S l (k + 1)) M' (B + 400 * k + 400) → Fr M0 M' → gV mX7_fail (d + 3) P 270 [vR 47, vI l, vI c, vI k, z4, z5] [] M' := by
      intro M' z4 z5 hR' hF'
      repeat (refine gV_s rfl (by first | exact trivial | omega) ?_)
      exact ih (k + 1) M' _ _ (by omega) (by rw [show B + 400 * ((k + 1 : Nat) : Int) = B + 400 * k + 400 by push_cast; omega]; exact hR') hF'
    rw [step] at nxt
    refine gV_in rfl (by unfold rng; omega) (by omega) ?_
    repeat (refine gV_s rfl (by first | exact trivial | omega) ?_)
    rw [e52]
    refine gV_i rfl (by unfold rng; omega) (fun h1 => ?_) (fun h1 => ?_)
    · rw [if_pos h1] at nxt
      generalize hT : aMvs S l k = T at i1 i2 i3 i4 i5 i6 hR nxt hL hbk hJ h1
      have hd2 : T 9 l = 0 := by rw [i2]; exact hd
      have er : ∀ r, r ≠ 20 → mw T 20 k (-6) r = T r := fun r a => mw_rn _ _ _ a
      have ek : upF (mw T 20 k (-6)) (T 1 0).toNat = upF T (T 1 0).toNat := upF_cong (er 9 (by decide)) (er 19 (by decide)) _
      have hin := upF_in T (T 1 0).toNat
      generalize hK : upF T (T 1 0).toNat = g at ek hin
      obtain ⟨j1, j2⟩ := AI_mv2 i1 (b := (k : Int)) (by omega) (by omega) l0 hd2 ek
      have e1m : aMv1 T k = aSettle (mw (mw (mw T 20 k (-6)) 19 k g) 21 k (if g = -6 then 0 else 1)) k := by
        unfold aMv1
        dsimp only
        rw [er 1 (by decide), ek]
      rw [e1m] at nxt
      have cg : goal (mw (mw (mw T 20 k (-6)) 19 k g) 21 k (if g = -6 then 0 else 1)) k = g := by
        unfold goal
        simp only [mw_rs, mw_rn, ne_eq, not_false_eq_true, Nat.reduceEqDiff, Nat.reduceLT, Nat.reduceLeDiff, true_or, or_true, forall_const, up1_s, if_true]
      have hRw : ∀ v : Int, v = (if g = -6 then 0 else 1) → RM (mw (mw (mw T 20 k (-6)) 19 k g) 21 k (if g = -6 then 0 else 1)) (mw (mw (mw M 52 k g) 53 k (-6)) 54 k v) (B + 400 * k) := by
        intro v hv
        rw [hv, mw_comm _ _ _ _ _ (show (20 : Nat) ≠ 19 by decide)]
        exact RM_w (RM_w (RM_w hR (by simp)) (by simp)) (by simp)
      have hFw : ∀ v : Int, Fr M0 (mw (mw (mw M 52 k g) 53 k (-6)) 54 k v) := fun v => Fr.w (Fr.w (Fr.w hF (by decide)) (by decide)) (by decide)
      have after : ∀ z5 : PV, gV mX7_fail (d + 3) P 222 [vR 47, vI l, vI c, vI k, vI (upF T (T 1 0).toNat), z5] [] M := by
        intro z5
        rw [hK]
        repeat (refine gV_s rfl (by first | exact trivial | omega) ?_)
        refine gV_i rfl (by unfold rng; omega) (fun h2 => ?_) (fun h2 => ?_)
        · have hg : g = -6 := by omega
          repeat (refine gV_s rfl (by first | exact trivial | omega) ?_)
          refine gV_it rfl (by unfold rng; omega) h2 ?_
          repeat (refine gV_s rfl (by first | exact trivial | omega) ?_)
          refine ih (k + 1) _ _ _ (by omega) ?_ (hFw 0)
          rw [show B + 400 * ((k + 1 : Nat) : Int) = B + 400 * k + 400 by push_cast; omega, step, hT, if_pos h1, e1m]
          have es : aSettle (mw (mw (mw T 20 k (-6)) 19 k g) 21 k (if g = -6 then 0 else 1)) k = mw (mw (mw T 20 k (-6)) 19 k g) 21 k (if g = -6 then 0 else 1) := by
            unfold aSettle
            rw [if_neg (fun q => q.1 (by rw [cg]; exact hg))]
          rw [es]
          exact RM_B (hRw 0 (by rw [if_pos hg])) (by omega)
        · repeat (refine gV_s rfl (by first | exact trivial | omega) ?_)
          refine gV_in rfl (by unfold rng; omega) h2 ?_
          repeat (refine gV_s rfl (by first | exact trivial | omega) ?_)
          refine gV_cV (ok_settleM (d := d) (b := (k : Int)) (B := B + 400 * k) j1 (by omega) (by omega) (hRw 1 (by rw [if_neg (by omega)])) (by omega) (by rw [cg]; omega) (j2 (by rw [cg]; omega))) mX7_settle_ok sX7_X7_settle rfl rfl rfl rfl rfl rfl ?_
          rintro r M2 ⟨rfl, hR2, hF2⟩
          refine gV_s rfl trivial (gV_s rfl trivial ?_)
          exact nxt M2 _ _ hR2 (Fr.tr (hFw 1) hF2)
      repeat (refine gV_s rfl (by first | exact trivial | omega) ?_)
      rw [hR.s1]
      exact best_loop (d := d) i1 hR (by omega) after (T 1 0).toNat 0 (by omega)
    · rw [if_neg h1] at nxt
      exact nxt M _ _ (RM_B hR (by omega)) hF
theorem ok_mFail {d : Nat} {S M : Mem} {B l : Int} (h : NI S) (hl : rng l) (hR : RM S M B) (hB : B + 1700000 ≤ 2000000000) : gOk mX7_fail (d + 3) [vR 47, vI l] M (dM (oFail S l) M B) := by
  have hMM := MR_of h hR (by omega)
  have hL := h.1.1
  refine gOk_of mX7_fail_ok (by simp) (Nat.le_of_ble_eq_true rfl) ?_
  repeat (refine gV_s rfl (by first | exact trivial | omega) ?_)
  refine gV_cV (ok_isLink (d := d + 1) (M := M) hMM hl) mX7_isLink_ok sX7_X7_isLink rfl rfl rfl rfl rfl rfl ?_
  rintro r M' ⟨rfl, ⟨h1, rfl⟩ | ⟨h1, rfl⟩⟩
  · rw [hR.s1] at h1
    have hup := h.2.1.2.1 l
    have e50 : M' 50 l = S 9 l := by rw [hR.e50]
    refine gV_in rfl (by unfold rng; omega) (by omega) ?_
    repeat (refine gV_s rfl (by first | exact trivial | omega) ?_)
    rw [e50]
    refine gV_i rfl (by unfold rng; omega) (fun h2 => ?_) (fun h2 => ?_)
    · repeat (refine gV_s rfl (by first | exact trivial | omega) ?_)
      exact gV_ret rfl trivial (dM0 (by unfold oFail; rw [if_pos h1, if_pos h2]) hR)
    · have hu : S 9 l = 1 := by omega
      have h1d := AI_down h hu
      have e9 : aLose (mw S 9 l 0) l 9 l = 0 := by rw [mw_lose, mw_rs, up1_s]
      obtain ⟨c1, c2, c3, c4, c5, c6⟩ := AI_can h1d h1.1 e9 8 (by omega)
      have eo : oFail S l = (S 17 l - S 15 l, aFail S l) := by unfold oFail; rw [if_pos h1, if_neg h2]
      have last : ∀ (M2 : Mem) (z3 : Int) (z4 z5 : PV), RM (aCan (aLose (mw S 9 l 0) l) l 8) M2 (B + 3200) → Fr M' M2 → gV mX7_fail (d + 3) (dM (oFail S l) M' B) 143 [vR 47, vI l, vI (S 17 l - S 15 l), vI z3, z4, z5] [] M2 := by
        intro M2 z3 z4 z5 hR2 hF2
        repeat (refine gV_s rfl (by first | exact trivial | omega) ?_)
        exact mvs_loopF (d := d) (M0 := M') (B := B + 3200) c1 h1.1 (by omega) (by rw [c3]; exact e9) (fun b b0 b8 => c6 b b0 (by omega)) (by omega) (fun M3 a b => dMP eo (RM_B a (by omega)) b) 8 0 M2 z4 z5 rfl (RM_B hR2 (by omega)) hF2
      have mid : ∀ (M2 : Mem) (z3 z4 z5 : PV), RM (aLose (mw S 9 l 0) l) M2 B → Fr M' M2 → gV mX7_fail (d + 3) (dM (oFail S l) M' B) 97 [vR 47, vI l, vI (S 17 l - S 15 l), z3, z4, z5] [] M2 := by
        intro M2 z3 z4 z5 hR2 hF2
        repeat (refine gV_s rfl (by first | exact trivial | omega) ?_)
        exact can_loopF (d := d) (M0 := M') (B := B) h1d h1.1 (by omega) e9 (fun M3 z3 z4 a b => last M3 z3 z4 z5 a b) 8 0 M2 z4 rfl (RM_B hR2 (by omega)) hF2
      have hR1 : RM (mw S 9 l 0) (mw M' 50 l 0) B := RM_w hR (by simp)
      have hn := h.1.2.2.1
      repeat (refine gV_s rfl (by first | exact trivial | omega) ?_)
      simp only [mw_rn, ne_eq, not_false_eq_true, Nat.reduceEqDiff, Nat.reduceLT, Nat.reduceLeDiff, true_or, or_true, forall_const]
      rw [hR.s16]
      have e0 : lsM S (mw M' 50 l 0) l 0 = mw M' 50 l 0 := mem_ext (fun r => by
        have hno : ∀ i : Int, ¬ (0 ≤ i ∧ i < ((0 : Nat) : Int) ∧ goneP S l i = true) := fun i q => by omega
        by_cases r1 : r = 61
        · subst r1
          funext i
          unfold lsM
          simp only [if_true]
          rw [if_neg (hno i), mw_rn _ _ _ (by decide), hR.e61]
        · by_cases r2 : r = 66
          · subst r2
            funext i
            unfold lsM
            simp only [Nat.reduceEqDiff, if_false, if_true]
            rw [if_neg (hno i), mw_rn _ _ _ (by decide), hR.e66]
          · exact lsM_o r1 r2)
      have := lose_loopM (d := d) (P := dM (oFail S l) M' B) h h1.1 (by omega) hR1 (z4 := none) (z5 := none) (fun M2 z3 a b => mid M2 z3 none none (by rw [mw_lose]; exact a) (Fr.tr (Fr.w Fr.rf (by decide)) b)) (S 4 0).toNat 0 (by omega)
      rw [e0] at this
      exact this
  · rw [hR.s1] at h1
    refine gV_it rfl (by unfold rng; omega) rfl ?_
    repeat (refine gV_s rfl (by first | exact trivial | omega) ?_)
    exact gV_ret rfl trivial (dM0 (by unfold oFail; rw [if_neg h1]) hR)
end
section
/-! The reference: what it tells. -/
theorem dMr {S M : Mem} {v v' B : Int} (h : v = v') (hR : RM S M B) : dM (v', S) M B (vI v) M := by subst h; exact dM0 rfl hR
theorem ok_mLetter {d : Nat} {S M : Mem} {B i w : Int} (h : NI S) (hi : rng i) (hw : rng w) (hR : RM S M B) : gOk mX7_letter (d + 1) [vR 47, vI i, vI w] M (dM (rLetter S i w, S) M B) := by
  have hn := h.1.2.2.1
  have e16 : M 47 16 = S 4 0 := hR.s16
  refine gOk_of mX7_letter_ok (by simp) (Nat.le_of_ble_eq_true rfl) ?_
  repeat (refine gV_s rfl (by first | exact trivial | omega) ?_)
  rw [e16]
  refine gV_cS (ok_in (d := d) (M := M) hi (by unfold rng; omega) (by unfold rng; omega)) mX7_in_ok sX7_X7_in rfl rfl rfl rfl ?_
  rintro r M' ⟨rfl, ⟨h1, rfl⟩ | ⟨h1, rfl⟩⟩
  · refine gV_in rfl (by unfold rng; omega) (by omega) ?_
    have e : rLetter S i w = (if w = 0 then S 31 i else if w = 1 then S 32 i else if w = 2 then S 33 i else if w = 3 then S 34 i else if w = 4 then S 35 i else if w = 5 then S 36 i else if w = 6 then S 37 i else if w = 7 then S 38 i else if w = 8 then S 39 i else -2) := by unfold rLetter; rw [if_pos (by omega)]
    rw [e]
    by_cases hc : 0 ≤ w ∧ w ≤ 8
    · have hcs : w = 0 ∨ w = 1 ∨ w = 2 ∨ w = 3 ∨ w = 4 ∨ w = 5 ∨ w = 6 ∨ w = 7 ∨ w = 8 := by omega
      rcases hcs with rfl | rfl | rfl | rfl | rfl | rfl | rfl | rfl | rfl
      · repeat (refine gV_s rfl (by first | exact trivial | omega) ?_)
        refine gV_swIn 68 rfl (by unfold rng; omega) (by decide) (by decide) rfl (by decide) ?_
        repeat (refine gV_s rfl (by first | exact trivial | omega) ?_)
        exact gV_ret rfl trivial (dMr (by rw [hR.e58]; rfl) hR)
      · repeat (refine gV_s rfl (by first | exact trivial | omega) ?_)
        refine gV_swIn 75 rfl (by unfold rng; omega) (by decide) (by decide) rfl (by decide) ?_
        repeat (refine gV_s rfl (by first | exact trivial | omega) ?_)
        exact gV_ret rfl trivial (dMr (by rw [hR.e59]; rfl) hR)
      · repeat (refine gV_s rfl (by first | exact trivial | omega) ?_)
        refine gV_swIn 82 rfl (by unfold rng; omega) (by decide) (by decide) rfl (by decide) ?_
        repeat (refine gV_s rfl (by first | exact trivial | omega) ?_)
        exact gV_ret rfl trivial (dMr (by rw [hR.e60]; rfl) hR)
      · repeat (refine gV_s rfl (by first | exact trivial | omega) ?_)
        refine gV_swIn 89 rfl (by unfold rng; omega) (by decide) (by decide) rfl (by decide) ?_
        repeat (refine gV_s rfl (by first | exact trivial | omega) ?_)
        exact gV_ret rfl trivial (dMr (by rw [hR.e61]; rfl) hR)
      · repeat (refine gV_s rfl (by first | exact trivial | omega) ?_)
        refine gV_swIn 96 rfl (by unfold rng; omega) (by decide) (by decide) rfl (by decide) ?_
        repeat (refine gV_s rfl (by first | exact trivial | omega) ?_)
        exact gV_ret rfl trivial (dMr (by rw [hR.e62]; rfl) hR)
      · repeat (refine gV_s rfl (by first | exact trivial | omega) ?_)
        refine gV_swIn 103 rfl (by unfold rng; omega) (by decide) (by decide) rfl (by decide) ?_
        repeat (refine gV_s rfl (by first | exact trivial | omega) ?_)
        exact gV_ret rfl trivial (dMr (by rw [hR.e63]; rfl) hR)
      · repeat (refine gV_s rfl (by first | exact trivial | omega) ?_)
        refine gV_swIn 110 rfl (by unfold rng; omega) (by decide) (by decide) rfl (by decide) ?_
        repeat (refine gV_s rfl (by first | exact trivial | omega) ?_)
        exact gV_ret rfl trivial (dMr (by rw [hR.e64]; rfl) hR)
      · repeat (refine gV_s rfl (by first | exact trivial | omega) ?_)
        refine gV_swIn 117 rfl (by unfold rng; omega) (by decide) (by decide) rfl (by decide) ?_
        repeat (refine gV_s rfl (by first | exact trivial | omega) ?_)
        exact gV_ret rfl trivial (dMr (by rw [hR.e65]; rfl) hR)
      · repeat (refine gV_s rfl (by first | exact trivial | omega) ?_)
        refine gV_swIn 124 rfl (by unfold rng; omega) (by decide) (by decide) rfl (by decide) ?_
        repeat (refine gV_s rfl (by first | exact trivial | omega) ?_)
        exact gV_ret rfl trivial (dMr (by rw [hR.e66]; rfl) hR)
    · repeat (refine gV_s rfl (by first | exact trivial | omega) ?_)
      refine gV_swOut 131 rfl hw (by omega) (by decide) ?_
      repeat (refine gV_s rfl (by first | exact trivial | omega) ?_)
      refine gV_ret rfl trivial (dMr ?_ hR)
      simp only [show ¬ w = 0 by omega, show ¬ w = 1 by omega, show ¬ w = 2 by omega, show ¬ w = 3 by omega, show ¬ w = 4 by omega, show ¬ w = 5 by omega, show ¬ w = 6 by omega, show ¬ w = 7 by omega, show ¬ w = 8 by omega, if_false]
  · refine gV_it rfl (by unfold rng; omega) rfl ?_
    repeat (refine gV_s rfl (by first | exact trivial | omega) ?_)
    exact gV_ret rfl trivial (dMr (by unfold rLetter; rw [if_neg (by omega)]) hR)
theorem mrate_loop {d : Nat} {S M : Mem} {lo : Int → Int} {x B b : Int} {P : PV → Mem → Prop} (h : AI S lo x) (hR : RM S M B) (hB : B ≤ 2000000000) (hb : rng b) (hP : P (vI (rates S b)) M) : ∀ (n k : Nat), (k : Int) + n = S 3 0 → gV mX7_rates (d + 1) P 9 [vR 47, vI b, vI (sm (rtB S b) k), vI k] [vI (S 3 0), vI k] M
  | 0, k, hk => by
    have hF := h.1.2.1
    have e : k = (S 3 0).toNat := by omega
    refine gV_it rfl (by unfold rng; omega) (by omega) ?_
    repeat (refine gV_s rfl (by first | exact trivial | omega) ?_)
    unfold rates at hP
    rw [← e] at hP
    exact gV_ret rfl trivial hP
  | n + 1, k, hk => by
    have hF := h.1.2.1
    have hMM := MR_of h hR hB
    have hbk := bkO_in h (f := k) (by omega) (by omega)
    have ih := mrate_loop (d := d) h hR hB hb hP n (k + 1) (by push_cast; omega)
    rw [sm_s] at ih
    refine gV_in rfl (by unfold rng; omega) (by omega) ?_
    repeat (refine gV_s rfl (by first | exact trivial | omega) ?_)
    refine gV_cV (ok_bucketNow (d := d) (P := fun r M' => r = vI (bkO S k) ∧ M' = M) (f := k) hMM (by omega) (by omega) ⟨by rw [bkM_eq h hR], rfl⟩) mX7_bucketNow_ok sX7_X7_bucketNow rfl rfl rfl rfl rfl rfl ?_
    rintro r M' ⟨rfl, rfl⟩
    unfold rng at hb
    repeat (refine gV_s rfl (by first | exact trivial | omega) ?_)
    refine gV_i rfl (by unfold rng; omega) (fun h2 => ?_) (fun h2 => ?_)
    · rw [show rtB S b k = S 24 k by unfold rtB; rw [if_pos h2]] at ih
      repeat (refine gV_s rfl (by first | exact trivial | omega) ?_)
      rw [hR.e56, hR.s10]
      exact ih
    · rw [show rtB S b k = 0 by unfold rtB; rw [if_neg h2], Int.add_zero] at ih
      repeat (refine gV_s rfl (by first | exact trivial | omega) ?_)
      rw [hR.s10, Int.add_zero]
      exact ih
theorem ok_mRates {d : Nat} {S M : Mem} {lo : Int → Int} {x B b : Int} {P : PV → Mem → Prop} (h : AI S lo x) (hR : RM S M B) (hB : B ≤ 2000000000) (hb : rng b) (hP : P (vI (rates S b)) M) : gOk mX7_rates (d + 1) [vR 47, vI b] M P := by
  have hF := h.1.2.1
  refine gOk_of mX7_rates_ok (by simp) (Nat.le_of_ble_eq_true rfl) ?_
  repeat (refine gV_s rfl (by first | exact trivial | omega) ?_)
  rw [hR.s10]
  exact mrate_loop h hR hB hb hP (S 3 0).toNat 0 (by omega)
theorem sm_add (f g : Int → Int) : ∀ n, sm (fun i => f i + g i) n = sm f n + sm g n
  | 0 => rfl
  | n + 1 => by simp only [sm]; rw [sm_add f g n]; omega
theorem sm_cong {f g : Int → Int} : ∀ {n : Nat}, (∀ i : Int, 0 ≤ i → i < n → f i = g i) → sm f n = sm g n
  | 0, _ => rfl
  | n + 1, h => by simp only [sm]; rw [sm_cong (n := n) (fun i a b => h i a (by omega)), h n (by omega) (by omega)]
theorem sm_one {a : Int} {v : Int → Int} : ∀ {n : Nat}, 0 ≤ a → sm (fun b => if b = a then v b else 0) n = if a < n then v a else 0
  | 0, h => by rw [if_neg (by omega)]; rfl
  | n + 1, h => by
    simp only [sm]
    rw [sm_one (n := n) h]
    by_cases e : (n : Int) = a
    · rw [if_neg (by omega), if_pos e, if_pos (by omega), e]; omega
    · rw [if_neg e]
      by_cases e2 : a < n
      · rw [if_pos e2, if_pos (by omega)]; omega
      · rw [if_neg e2, if_neg (by omega)]; rfl
/-- a link's load, by buckets -/
def ldB (S : Mem) (l : Int) : Int → Int := fun b => if S 19 b = l then rates S b else 0
theorem load_eq {S : Mem} {lo : Int → Int} {x : Int} (h : AI S lo x) (l : Int) : sm (ldB S l) 8 = load S l := by
  have hF := h.1.2.1
  have key : ∀ n : Nat, n ≤ 16 → sm (fun b => if S 19 b = l then sm (rtB S b) n else 0) 8 = sm (ldL S l) n := by
    intro n
    induction n with
    | zero => intro _; simp [sm]
    | succ n ih =>
      intro hn
      rw [sm_s (ldL S l) n, ← ih (by omega)]
      have hb := bkO_in h (f := n) (by omega) (by omega)
      have e1 : ldL S l n = sm (fun b => if b = bkO S n then (if S 19 b = l then S 24 n else 0) else 0) 8 := by
        rw [sm_one hb.1, if_pos (by omega)]
        rfl
      rw [e1, ← sm_add]
      refine sm_cong (fun b _ _ => ?_)
      unfold rtB
      simp only [sm]
      by_cases c1 : S 19 b = l <;> by_cases c2 : b = bkO S n
      · rw [if_pos c1, if_pos c1, if_pos c2, if_pos c2.symm, if_pos c1]
      · rw [if_pos c1, if_pos c1, if_neg c2, if_neg (fun q => c2 q.symm)]
      · rw [if_neg c1, if_neg c1, if_pos c2, if_neg c1]; rfl
      · rw [if_neg c1, if_neg c1, if_neg c2]; rfl
  exact key (S 3 0).toNat (by omega)
theorem mload_loop {d : Nat} {S M : Mem} {lo : Int → Int} {x B l : Int} {P : PV → Mem → Prop} (h : AI S lo x) (hR : RM S M B) (hB : B ≤ 2000000000) (hl : rng l) (hP : P (vI (load S l)) M) : ∀ (n k : Nat), k + n = 8 → gV mX7_load (d + 2) P 7 [vR 47, vI l, vI (sm (ldB S l) k), vI k] [vI 8, vI k] M
  | 0, k, hk => by
    have e : k = 8 := by omega
    subst e
    refine gV_it rfl (by unfold rng; omega) (by omega) ?_
    repeat (refine gV_s rfl (by first | exact trivial | omega) ?_)
    rw [load_eq h]
    exact gV_ret rfl trivial hP
  | n + 1, k, hk => by
    have hbk := AI_bk h k
    have ih := mload_loop (d := d) h hR hB hl hP n (k + 1) (by omega)
    rw [sm_s] at ih
    have e52 : M 52 k = S 19 k := by rw [hR.e52]
    refine gV_in rfl (by unfold rng; omega) (by omega) ?_
    unfold rng at hl
    repeat (refine gV_s rfl (by first | exact trivial | omega) ?_)
    rw [e52]
    refine gV_i rfl (by unfold rng; omega) (fun h2 => ?_) (fun h2 => ?_)
    · rw [show ldB S l k = rates S k by unfold ldB; rw [if_pos h2]] at ih
      repeat (refine gV_s rfl (by first | exact trivial | omega) ?_)
      refine gV_cV (ok_mRates (d := d) (P := fun r M' => r = vI (rates S k) ∧ M' = M) (b := k) h hR hB (by unfold rng; omega) ⟨rfl, rfl⟩) mX7_rates_ok sX7_X7_rates rfl rfl rfl rfl rfl rfl ?_
      rintro r M' ⟨rfl, rfl⟩
      repeat (refine gV_s rfl (by first | exact trivial | omega) ?_)
      exact ih
    · rw [show ldB S l k = 0 by unfold ldB; rw [if_neg h2], Int.add_zero] at ih
      repeat (refine gV_s rfl (by first | exact trivial | omega) ?_)
      rw [Int.add_zero]
      exact ih
theorem ok_mLoad {d : Nat} {S M : Mem} {lo : Int → Int} {x B l : Int} {P : PV → Mem → Prop} (h : AI S lo x) (hR : RM S M B) (hB : B ≤ 2000000000) (hl : rng l) (hP : P (vI (load S l)) M) : gOk mX7_load (d + 2) [vR 47, vI l] M P := by
  refine gOk_of mX7_load_ok (by simp) (Nat.le_of_ble_eq_true rfl) ?_
  repeat (refine gV_s rfl (by first | exact trivial | omega) ?_)
  exact mload_loop h hR hB hl hP 8 0 rfl
theorem cin_l {S M : Mem} {lo : Int → Int} {x B l s : Int} (hR : RM S M B) (l0 : 0 ≤ l) : ct (cIn M s l) (M 47 16).toNat = ct (fun j => decide (S 34 j = s ∧ S 35 j = l)) (S 4 0).toNat := by
  rw [hR.s16]
  exact ct_cong (fun j _ _ => by unfold cIn; rw [hR.e61, hR.e62]; simp [show ¬ l < 0 by omega])
theorem cin_a {S M : Mem} {lo : Int → Int} {x B s : Int} (h : AI S lo x) (hR : RM S M B) (s0 : 0 ≤ s) (s6 : s < 6) : ct (cIn M s (-1)) (M 47 16).toNat = S 41 s := by
  rw [hR.s16, h.2.2.2.2.2.2.2.1 s s0 s6]
  exact ct_cong (fun j _ _ => by unfold cIn; rw [hR.e61]; simp)
theorem cfl_a {S M : Mem} {lo : Int → Int} {x B f : Int} (h : AI S lo x) (hR : RM S M B) (f0 : 0 ≤ f) (f1 : f < 16) : ct (cFl M f (-1)) (M 47 16).toNat = S 26 f ∧ ct (cFl M f 4) (M 47 16).toNat = S 27 f ∧ ct (cFl M f 5) (M 47 16).toNat = S 28 f := by
  obtain ⟨a1, a2, a3⟩ := h.2.2.2.2.2.2.2.2.2.1 f f0 f1
  rw [hR.s16, a1, a2, a3]
  refine ⟨ct_cong (fun j _ _ => ?_), ct_cong (fun j _ _ => ?_), ct_cong (fun j _ _ => ?_)⟩
  · unfold cFl; rw [hR.e58]; simp
  · unfold cFl; rw [hR.e58, hR.e61]; simp [and_comm]
  · unfold cFl; rw [hR.e58, hR.e61]; simp [and_comm]
theorem chd_a {S M : Mem} {lo : Int → Int} {x B b : Int} (h : AI S lo x) (hR : RM S M B) (b0 : 0 ≤ b) (b8 : b < 8) : ct (cHd M b) (M 47 16).toNat = S 22 b := by
  rw [hR.s16, h.2.2.2.2.2.2.2.2.1 b b0 b8]
  exact ct_cong (fun j _ _ => by unfold cHd; rw [hR.e61, hR.e60])
theorem ok_mAbout {d : Nat} {S M : Mem} {B l w : Int} (h : NI S) (hl : rng l) (hw : rng w) (hR : RM S M B) (hB : B + 1700000 ≤ 2000000000) : gOk mX7_about (d + 3) [vR 47, vI l, vI w] M (dM (rAbout S l w, S) M B) := by
  have hMM := MR_of h hR (by omega)
  have hL := h.1.1
  refine gOk_of mX7_about_ok (by simp) (Nat.le_of_ble_eq_true rfl) ?_
  repeat (refine gV_s rfl (by first | exact trivial | omega) ?_)
  refine gV_cV (ok_isLink (d := d + 1) (M := M) hMM hl) mX7_isLink_ok sX7_X7_isLink rfl rfl rfl rfl rfl rfl ?_
  rintro r M' ⟨rfl, ⟨h1, rfl⟩ | ⟨h1, rfl⟩⟩
  · rw [hR.s1] at h1
    refine gV_in rfl (by unfold rng; omega) (by omega) ?_
    have hup := h.2.1.2.1 l
    have kl := h.2.2.2.2.2.2.2.2.2.2.1 l h1.1 (by omega)
    have e50 : M' 50 l = S 9 l := by rw [hR.e50]
    have e : rAbout S l w = (if w = 0 then S 7 l else if w = 1 then S 8 l else if w = 2 then S 9 l else if w = 3 then S 17 l - S 16 l else if w = 4 then S 16 l - S 15 l else if w = 5 then ct (is_ (S 19) l) 8 else if w = 6 then load S l else if w = 7 then S 18 l else -2) := by unfold rAbout; rw [if_pos h1]
    rw [e]
    by_cases hc : 0 ≤ w ∧ w ≤ 7
    · have hcs : w = 0 ∨ w = 1 ∨ w = 2 ∨ w = 3 ∨ w = 4 ∨ w = 5 ∨ w = 6 ∨ w = 7 := by omega
      rcases hcs with rfl | rfl | rfl | rfl | rfl | rfl | rfl | rfl
      · repeat (refine gV_s rfl (by first | exact trivial | omega) ?_)
        refine gV_swIn 56 rfl (by unfold rng; omega) (by decide) (by decide) rfl (by decide) ?_
        repeat (refine gV_s rfl (by first | exact trivial | omega) ?_)
        exact gV_ret rfl trivial (dMr (by rw [hR.e48]; rfl) hR)
      · repeat (refine gV_s rfl (by first | exact trivial | omega) ?_)
        refine gV_swIn 63 rfl (by unfold rng; omega) (by decide) (by decide) rfl (by decide) ?_
        repeat (refine gV_s rfl (by first | exact trivial | omega) ?_)
        exact gV_ret rfl trivial (dMr (by rw [hR.e49]; rfl) hR)
      · repeat (refine gV_s rfl (by first | exact trivial | omega) ?_)
        refine gV_swIn 70 rfl (by unfold rng; omega) (by decide) (by decide) rfl (by decide) ?_
        repeat (refine gV_s rfl (by first | exact trivial | omega) ?_)
        rw [e50]
        refine gV_i rfl (by unfold rng; omega) (fun h2 => ?_) (fun h2 => ?_)
        · repeat (refine gV_s rfl (by first | exact trivial | omega) ?_)
          exact gV_ret rfl trivial (dMr h2.symm hR)
        · repeat (refine gV_s rfl (by first | exact trivial | omega) ?_)
          exact gV_ret rfl trivial (dMr (show (1 : Int) = S 9 l by omega) hR)
      · repeat (refine gV_s rfl (by first | exact trivial | omega) ?_)
        refine gV_swIn 85 rfl (by unfold rng; omega) (by decide) (by decide) rfl (by decide) ?_
        repeat (refine gV_s rfl (by first | exact trivial | omega) ?_)
        refine gV_cV (ok_inState (d := d + 2) (M := M') (s := 1) (l := l) (P := fun r M2 => r = vI (S 17 l - S 16 l) ∧ M2 = M') hMM (by unfold rng; omega) hl ⟨by rw [cin_l (lo := fun _ => 0) (x := 0) hR h1.1, kl.2.1], rfl⟩) mX7_inState_ok sX7_X7_inState rfl rfl rfl rfl rfl rfl ?_
        rintro r M2 ⟨rfl, rfl⟩
        exact gV_ret rfl trivial (dMr rfl hR)
      · repeat (refine gV_s rfl (by first | exact trivial | omega) ?_)
        refine gV_swIn 92 rfl (by unfold rng; omega) (by decide) (by decide) rfl (by decide) ?_
        repeat (refine gV_s rfl (by first | exact trivial | omega) ?_)
        refine gV_cV (ok_inState (d := d + 2) (M := M') (s := 2) (l := l) (P := fun r M2 => r = vI (S 16 l - S 15 l) ∧ M2 = M') hMM (by unfold rng; omega) hl ⟨by rw [cin_l (lo := fun _ => 0) (x := 0) hR h1.1, kl.2.2], rfl⟩) mX7_inState_ok sX7_X7_inState rfl rfl rfl rfl rfl rfl ?_
        rintro r M2 ⟨rfl, rfl⟩
        exact gV_ret rfl trivial (dMr rfl hR)
      · repeat (refine gV_s rfl (by first | exact trivial | omega) ?_)
        refine gV_swIn 99 rfl (by unfold rng; omega) (by decide) (by decide) rfl (by decide) ?_
        repeat (refine gV_s rfl (by first | exact trivial | omega) ?_)
        refine gV_cV (ok_bucketsOn (d := d + 2) (M := M') (l := l) (P := fun r M2 => r = vI (ct (is_ (S 19) l) 8) ∧ M2 = M') hMM hl ⟨by rw [hR.e52], rfl⟩) mX7_bucketsOn_ok sX7_X7_bucketsOn rfl rfl rfl rfl rfl rfl ?_
        rintro r M2 ⟨rfl, rfl⟩
        exact gV_ret rfl trivial (dMr rfl hR)
      · repeat (refine gV_s rfl (by first | exact trivial | omega) ?_)
        refine gV_swIn 105 rfl (by unfold rng; omega) (by decide) (by decide) rfl (by decide) ?_
        repeat (refine gV_s rfl (by first | exact trivial | omega) ?_)
        refine gV_cV (ok_mLoad (d := d) (M := M') (l := l) (P := fun r M2 => r = vI (load S l) ∧ M2 = M') h hR (by omega) hl ⟨rfl, rfl⟩) mX7_load_ok sX7_X7_load rfl rfl rfl rfl rfl rfl ?_
        rintro r M2 ⟨rfl, rfl⟩
        exact gV_ret rfl trivial (dMr rfl hR)
      · repeat (refine gV_s rfl (by first | exact trivial | omega) ?_)
        refine gV_swIn 111 rfl (by unfold rng; omega) (by decide) (by decide) rfl (by decide) ?_
        repeat (refine gV_s rfl (by first | exact trivial | omega) ?_)
        exact gV_ret rfl trivial (dMr (by rw [hR.e51]; rfl) hR)
    · repeat (refine gV_s rfl (by first | exact trivial | omega) ?_)
      refine gV_swOut 118 rfl hw (by omega) (by decide) ?_
      repeat (refine gV_s rfl (by first | exact trivial | omega) ?_)
      refine gV_ret rfl trivial (dMr ?_ hR)
      simp only [show ¬ w = 0 by omega, show ¬ w = 1 by omega, show ¬ w = 2 by omega, show ¬ w = 3 by omega, show ¬ w = 4 by omega, show ¬ w = 5 by omega, show ¬ w = 6 by omega, show ¬ w = 7 by omega, if_false]
  · rw [hR.s1] at h1
    refine gV_it rfl (by unfold rng; omega) rfl ?_
    repeat (refine gV_s rfl (by first | exact trivial | omega) ?_)
    exact gV_ret rfl trivial (dMr (by unfold rAbout; rw [if_neg h1]) hR)
theorem ok_mBucket {d : Nat} {S M : Mem} {B b w : Int} (h : NI S) (hb : rng b) (hw : rng w) (hR : RM S M B) (hB : B + 1700000 ≤ 2000000000) : gOk mX7_bucket (d + 2) [vR 47, vI b, vI w] M (dM (rBucket S b w, S) M B) := by
  have hMM := MR_of h hR (by omega)
  refine gOk_of mX7_bucket_ok (by simp) (Nat.le_of_ble_eq_true rfl) ?_
  repeat (refine gV_s rfl (by first | exact trivial | omega) ?_)
  refine gV_cS (ok_isBucket (d := d) (M := M) hb) mX7_isBucket_ok sX7_X7_isBucket rfl rfl rfl rfl ?_
  rintro r M' ⟨rfl, ⟨h1, rfl⟩ | ⟨h1, rfl⟩⟩
  · refine gV_in rfl (by unfold rng; omega) (by omega) ?_
    have hbk := h.2.2.1 b
    have e54 : M' 54 b = S 21 b := by rw [hR.e54]
    have e : rBucket S b w = (if w = 0 then S 19 b else if w = 1 then S 20 b else if w = 2 then S 21 b else if w = 3 then S 22 b else if w = 4 then rates S b else if w = 5 then S 23 b else -2) := by unfold rBucket; rw [if_pos h1]
    rw [e]
    by_cases hc : 0 ≤ w ∧ w ≤ 5
    · have hcs : w = 0 ∨ w = 1 ∨ w = 2 ∨ w = 3 ∨ w = 4 ∨ w = 5 := by omega
      rcases hcs with rfl | rfl | rfl | rfl | rfl | rfl
      · repeat (refine gV_s rfl (by first | exact trivial | omega) ?_)
        refine gV_swIn 48 rfl (by unfold rng; omega) (by decide) (by decide) rfl (by decide) ?_
        repeat (refine gV_s rfl (by first | exact trivial | omega) ?_)
        exact gV_ret rfl trivial (dMr (by rw [hR.e52]; rfl) hR)
      · repeat (refine gV_s rfl (by first | exact trivial | omega) ?_)
        refine gV_swIn 55 rfl (by unfold rng; omega) (by decide) (by decide) rfl (by decide) ?_
        repeat (refine gV_s rfl (by first | exact trivial | omega) ?_)
        exact gV_ret rfl trivial (dMr (by rw [hR.e53]; rfl) hR)
      · repeat (refine gV_s rfl (by first | exact trivial | omega) ?_)
        refine gV_swIn 62 rfl (by unfold rng; omega) (by decide) (by decide) rfl (by decide) ?_
        repeat (refine gV_s rfl (by first | exact trivial | omega) ?_)
        rw [e54]
        refine gV_i rfl (by unfold rng; omega) (fun h2 => ?_) (fun h2 => ?_)
        · repeat (refine gV_s rfl (by first | exact trivial | omega) ?_)
          exact gV_ret rfl trivial (dMr h2.symm hR)
        · repeat (refine gV_s rfl (by first | exact trivial | omega) ?_)
          exact gV_ret rfl trivial (dMr (show (1 : Int) = S 21 b by omega) hR)
      · repeat (refine gV_s rfl (by first | exact trivial | omega) ?_)
        refine gV_swIn 77 rfl (by unfold rng; omega) (by decide) (by decide) rfl (by decide) ?_
        repeat (refine gV_s rfl (by first | exact trivial | omega) ?_)
        refine gV_cV (ok_held (d := d + 1) (M := M') (b := b) (P := fun r M2 => r = vI (S 22 b) ∧ M2 = M') hMM hb ⟨by rw [chd_a h hR h1.1 h1.2], rfl⟩) mX7_held_ok sX7_X7_held rfl rfl rfl rfl rfl rfl ?_
        rintro r M2 ⟨rfl, rfl⟩
        exact gV_ret rfl trivial (dMr rfl hR)
      · repeat (refine gV_s rfl (by first | exact trivial | omega) ?_)
        refine gV_swIn 83 rfl (by unfold rng; omega) (by decide) (by decide) rfl (by decide) ?_
        repeat (refine gV_s rfl (by first | exact trivial | omega) ?_)
        refine gV_cV (ok_mRates (d := d) (M := M') (b := b) (P := fun r M2 => r = vI (rates S b) ∧ M2 = M') h hR (by omega) hb ⟨rfl, rfl⟩) mX7_rates_ok sX7_X7_rates rfl rfl rfl rfl rfl rfl ?_
        rintro r M2 ⟨rfl, rfl⟩
        exact gV_ret rfl trivial (dMr rfl hR)
      · repeat (refine gV_s rfl (by first | exact trivial | omega) ?_)
        refine gV_swIn 89 rfl (by unfold rng; omega) (by decide) (by decide) rfl (by decide) ?_
        repeat (refine gV_s rfl (by first | exact trivial | omega) ?_)
        exact gV_ret rfl trivial (dMr (by rw [hR.e55]; rfl) hR)
    · repeat (refine gV_s rfl (by first | exact trivial | omega) ?_)
      refine gV_swOut 96 rfl hw (by omega) (by decide) ?_
      repeat (refine gV_s rfl (by first | exact trivial | omega) ?_)
      refine gV_ret rfl trivial (dMr ?_ hR)
      simp only [show ¬ w = 0 by omega, show ¬ w = 1 by omega, show ¬ w = 2 by omega, show ¬ w = 3 by omega, show ¬ w = 4 by omega, show ¬ w = 5 by omega, if_false]
  · refine gV_it rfl (by unfold rng; omega) rfl ?_
    repeat (refine gV_s rfl (by first | exact trivial | omega) ?_)
    exact gV_ret rfl trivial (dMr (by unfold rBucket; rw [if_neg h1]) hR)
theorem ok_mOfFlow {d : Nat} {S M : Mem} {B f w : Int} (h : NI S) (hf : rng f) (hw : rng w) (hR : RM S M B) (hB : B + 1700000 ≤ 2000000000) : gOk mX7_ofFlow (d + 2) [vR 47, vI f, vI w] M (dM (rOfFlow S f w, S) M B) := by
  have hMM := MR_of h hR (by omega)
  have hF := h.1.2.1
  refine gOk_of mX7_ofFlow_ok (by simp) (Nat.le_of_ble_eq_true rfl) ?_
  repeat (refine gV_s rfl (by first | exact trivial | omega) ?_)
  refine gV_cV (ok_isFlow (d := d) (M := M) hMM hf) mX7_isFlow_ok sX7_X7_isFlow rfl rfl rfl rfl rfl rfl ?_
  rintro r M' ⟨rfl, ⟨h1, rfl⟩ | ⟨h1, rfl⟩⟩
  · rw [hR.s10] at h1
    refine gV_in rfl (by unfold rng; omega) (by omega) ?_
    have hff := h.2.2.2.2.2.1 f
    have cf := cfl_a h hR h1.1 (show f < 16 by omega)
    have e57 : M' 57 f = S 25 f := by rw [hR.e57]
    have e : rOfFlow S f w = (if w = 0 then S 24 f else if w = 1 then bkO S f else if w = 2 then S 26 f else if w = 3 then S 27 f else if w = 4 then S 28 f else if w = 5 then (if S 25 f = -1 then 0 else 1) else -2) := by unfold rOfFlow; rw [if_pos h1]
    rw [e]
    by_cases hc : 0 ≤ w ∧ w ≤ 5
    · have hcs : w = 0 ∨ w = 1 ∨ w = 2 ∨ w = 3 ∨ w = 4 ∨ w = 5 := by omega
      rcases hcs with rfl | rfl | rfl | rfl | rfl | rfl
      · repeat (refine gV_s rfl (by first | exact trivial | omega) ?_)
        refine gV_swIn 48 rfl (by unfold rng; omega) (by decide) (by decide) rfl (by decide) ?_
        repeat (refine gV_s rfl (by first | exact trivial | omega) ?_)
        exact gV_ret rfl trivial (dMr (by rw [hR.e56]; rfl) hR)
      · repeat (refine gV_s rfl (by first | exact trivial | omega) ?_)
        refine gV_swIn 55 rfl (by unfold rng; omega) (by decide) (by decide) rfl (by decide) ?_
        repeat (refine gV_s rfl (by first | exact trivial | omega) ?_)
        refine gV_cV (ok_bucketNow (d := d + 1) (M := M') (f := f) (P := fun r M2 => r = vI (bkO S f) ∧ M2 = M') hMM h1.1 (by omega) ⟨by rw [bkM_eq h hR], rfl⟩) mX7_bucketNow_ok sX7_X7_bucketNow rfl rfl rfl rfl rfl rfl ?_
        rintro r M2 ⟨rfl, rfl⟩
        exact gV_ret rfl trivial (dMr rfl hR)
      · repeat (refine gV_s rfl (by first | exact trivial | omega) ?_)
        refine gV_swIn 61 rfl (by unfold rng; omega) (by decide) (by decide) rfl (by decide) ?_
        repeat (refine gV_s rfl (by first | exact trivial | omega) ?_)
        refine gV_cV (ok_ofFlowIn (d := d + 1) (M := M') (f := f) (s := -1) (P := fun r M2 => r = vI (S 26 f) ∧ M2 = M') hMM hf (by unfold rng; omega) ⟨by rw [cf.1], rfl⟩) mX7_ofFlowIn_ok sX7_X7_ofFlowIn rfl rfl rfl rfl rfl rfl ?_
        rintro r M2 ⟨rfl, rfl⟩
        exact gV_ret rfl trivial (dMr rfl hR)
      · repeat (refine gV_s rfl (by first | exact trivial | omega) ?_)
        refine gV_swIn 68 rfl (by unfold rng; omega) (by decide) (by decide) rfl (by decide) ?_
        repeat (refine gV_s rfl (by first | exact trivial | omega) ?_)
        refine gV_cV (ok_ofFlowIn (d := d + 1) (M := M') (f := f) (s := 4) (P := fun r M2 => r = vI (S 27 f) ∧ M2 = M') hMM hf (by unfold rng; omega) ⟨by rw [cf.2.1], rfl⟩) mX7_ofFlowIn_ok sX7_X7_ofFlowIn rfl rfl rfl rfl rfl rfl ?_
        rintro r M2 ⟨rfl, rfl⟩
        exact gV_ret rfl trivial (dMr rfl hR)
      · repeat (refine gV_s rfl (by first | exact trivial | omega) ?_)
        refine gV_swIn 75 rfl (by unfold rng; omega) (by decide) (by decide) rfl (by decide) ?_
        repeat (refine gV_s rfl (by first | exact trivial | omega) ?_)
        refine gV_cV (ok_ofFlowIn (d := d + 1) (M := M') (f := f) (s := 5) (P := fun r M2 => r = vI (S 28 f) ∧ M2 = M') hMM hf (by unfold rng; omega) ⟨by rw [cf.2.2], rfl⟩) mX7_ofFlowIn_ok sX7_X7_ofFlowIn rfl rfl rfl rfl rfl rfl ?_
        rintro r M2 ⟨rfl, rfl⟩
        exact gV_ret rfl trivial (dMr rfl hR)
      · repeat (refine gV_s rfl (by first | exact trivial | omega) ?_)
        refine gV_swIn 82 rfl (by unfold rng; omega) (by decide) (by decide) rfl (by decide) ?_
        repeat (refine gV_s rfl (by first | exact trivial | omega) ?_)
        rw [e57]
        refine gV_i rfl (by unfold rng; omega) (fun h2 => ?_) (fun h2 => ?_)
        · repeat (refine gV_s rfl (by first | exact trivial | omega) ?_)
          exact gV_ret rfl trivial (dMr (show (0 : Int) = (if S 25 f = -1 then 0 else 1) by rw [if_pos (by omega)]) hR)
        · repeat (refine gV_s rfl (by first | exact trivial | omega) ?_)
          exact gV_ret rfl trivial (dMr (show (1 : Int) = (if S 25 f = -1 then 0 else 1) by rw [if_neg (by omega)]) hR)
    · repeat (refine gV_s rfl (by first | exact trivial | omega) ?_)
      refine gV_swOut 97 rfl hw (by omega) (by decide) ?_
      repeat (refine gV_s rfl (by first | exact trivial | omega) ?_)
      refine gV_ret rfl trivial (dMr ?_ hR)
      simp only [show ¬ w = 0 by omega, show ¬ w = 1 by omega, show ¬ w = 2 by omega, show ¬ w = 3 by omega, show ¬ w = 4 by omega, show ¬ w = 5 by omega, if_false]
  · rw [hR.s10] at h1
    refine gV_it rfl (by unfold rng; omega) rfl ?_
    repeat (refine gV_s rfl (by first | exact trivial | omega) ?_)
    exact gV_ret rfl trivial (dMr (by unfold rOfFlow; rw [if_neg h1]) hR)
theorem ok_mOut {d : Nat} {S M : Mem} {B i : Int} (h : NI S) (hi : rng i) (hR : RM S M B) : gOk mX7_out (d + 1) [vR 47, vI i] M (dM (rOut S i, S) M B) := by
  have n4 := AI_ins h (s := 4) (by decide) (by decide)
  have e29 : M 47 29 = S 41 4 := hR.s29
  refine gOk_of mX7_out_ok (by simp) (Nat.le_of_ble_eq_true rfl) ?_
  repeat (refine gV_s rfl (by first | exact trivial | omega) ?_)
  rw [e29]
  refine gV_cS (ok_in (d := d) (M := M) hi (by unfold rng; omega) (by unfold rng; omega)) mX7_in_ok sX7_X7_in rfl rfl rfl rfl ?_
  rintro r M' ⟨rfl, ⟨h1, rfl⟩ | ⟨h1, rfl⟩⟩
  · refine gV_in rfl (by unfold rng; omega) (by omega) ?_
    repeat (refine gV_s rfl (by first | exact trivial | omega) ?_)
    exact gV_ret rfl trivial (dMr (by unfold rOut; rw [if_pos (by omega), hR.e69]) hR)
  · refine gV_it rfl (by unfold rng; omega) rfl ?_
    repeat (refine gV_s rfl (by first | exact trivial | omega) ?_)
    exact gV_ret rfl trivial (dMr (by unfold rOut; rw [if_neg (by omega)]) hR)
theorem mix_mono {out fl pl : Int → Int} {f : Int} : ∀ (n k : Nat), mixP out fl pl f k = true → mixP out fl pl f (k + n) = true
  | 0, k, h => h
  | n + 1, k, h => by
    have := mix_mono (out := out) (fl := fl) (pl := pl) (f := f) n k h
    rw [show k + (n + 1) = (k + n) + 1 by omega]
    unfold mixP
    rw [this]
    rfl
theorem ord_loop {d : Nat} {S M : Mem} {B f : Int} (h : NI S) (hR : RM S M B) (hf : rng f) (f0 : 0 ≤ f) (f1 : f < S 3 0) : ∀ (n k : Nat) (z : Int), (k : Int) + n = S 41 4 → mixP (S 40) (S 31) (S 32) f k = false → rng z → (∀ v, 0 ≤ v → (v < z ↔ v < lastP (S 40) (S 31) (S 32) f k)) →
    gV mX7_ordered d (dM (rOrdered S f, S) M B) 19 [vR 47, vI f, vI z, vI k] [vI (S 41 4), vI k] M
  | 0, k, z, hk, hm, hz, hl => by
    have n4 := AI_ins h (s := 4) (by decide) (by decide)
    have hmx := (h.2.2.2.2.2.2.2.2.2.2.2.2.2.2.1 f f0 f1).2
    have e : k = (S 41 4).toNat := by omega
    subst e
    refine gV_it rfl (by unfold rng; omega) (by omega) ?_
    repeat (refine gV_s rfl (by first | exact trivial | omega) ?_)
    refine gV_ret rfl trivial (dMr ?_ hR)
    unfold rOrdered
    rw [if_pos ⟨f0, f1⟩, hmx, hm, if_pos (by rfl)]
  | n + 1, k, z, hk, hm, hz, hl => by
    have n4 := AI_ins h (s := 4) (by decide) (by decide)
    have h4 := h.1.2.2.1
    have hmx := (h.2.2.2.2.2.2.2.2.2.2.2.2.2.2.1 f f0 f1).2
    have ho := h.2.2.2.2.2.2.2.2.2.2.2.2.2.1 k (by omega) (by omega)
    have ht := h.2.2.2.2.2.2.1 (S 40 k)
    have e69 : M 69 k = S 40 k := by rw [hR.e69]
    have e58 : M 58 (S 40 k) = S 31 (S 40 k) := by rw [hR.e58]
    have e59 : M 59 (S 40 k) = S 32 (S 40 k) := by rw [hR.e59]
    have hv := hl (S 32 (S 40 k)) (by omega)
    have stepM : mixP (S 40) (S 31) (S 32) f (k + 1) = (mixP (S 40) (S 31) (S 32) f k || (decide (S 31 (S 40 k) = f) && decide (S 32 (S 40 k) < lastP (S 40) (S 31) (S 32) f k))) := rfl
    have stepL : lastP (S 40) (S 31) (S 32) f (k + 1) = if S 31 (S 40 k) = f then S 32 (S 40 k) else lastP (S 40) (S 31) (S 32) f k := rfl
    refine gV_in rfl (by unfold rng; omega) (by omega) ?_
    repeat (refine gV_s rfl (by first | exact trivial | omega) ?_)
    rw [e69]
    repeat (refine gV_s rfl (by first | exact trivial | omega) ?_)
    rw [e58]
    refine gV_i rfl (by unfold rng at *; omega) (fun h2 => ?_) (fun h2 => ?_)
    · repeat (refine gV_s rfl (by first | exact trivial | omega) ?_)
      rw [e69]
      repeat (refine gV_s rfl (by first | exact trivial | omega) ?_)
      rw [e59]
      refine gV_i rfl (by unfold rng at *; omega) (fun h3 => ?_) (fun h3 => ?_)
      · have h3' : ¬ S 32 (S 40 k) < lastP (S 40) (S 31) (S 32) f k := fun q => by have := hv.mpr q; omega
        repeat (refine gV_s rfl (by first | exact trivial | omega) ?_)
        rw [e69]
        repeat (refine gV_s rfl (by first | exact trivial | omega) ?_)
        rw [e59, hR.s29]
        refine ord_loop h hR hf f0 f1 n (k + 1) (S 32 (S 40 k)) (by push_cast; omega) (by rw [stepM, hm]; simp [h3']) (by unfold rng; omega) (fun v _ => by rw [stepL, if_pos h2])
      · have h3' : S 32 (S 40 k) < lastP (S 40) (S 31) (S 32) f k := hv.mp (by omega)
        repeat (refine gV_s rfl (by first | exact trivial | omega) ?_)
        refine gV_ret rfl trivial (dMr ?_ hR)
        have hm1 : mixP (S 40) (S 31) (S 32) f (k + 1) = true := by rw [stepM]; simp [h2, h3']
        have hm2 := mix_mono n (k + 1) hm1
        rw [show k + 1 + n = (S 41 4).toNat by omega] at hm2
        unfold rOrdered
        rw [if_pos ⟨f0, f1⟩, hmx, hm2, if_neg (by decide)]
    · repeat (refine gV_s rfl (by first | exact trivial | omega) ?_)
      rw [hR.s29]
      refine ord_loop h hR hf f0 f1 n (k + 1) z (by push_cast; omega) (by rw [stepM, hm]; simp [h2]) hz (fun v hv0 => by rw [stepL, if_neg h2]; exact hl v hv0)
theorem ok_mOrdered {d : Nat} {S M : Mem} {B f : Int} (h : NI S) (hf : rng f) (hR : RM S M B) (hB : B + 1700000 ≤ 2000000000) : gOk mX7_ordered (d + 2) [vR 47, vI f] M (dM (rOrdered S f, S) M B) := by
  have hMM := MR_of h hR (by omega)
  have n4 := AI_ins h (s := 4) (by decide) (by decide)
  refine gOk_of mX7_ordered_ok (by simp) (Nat.le_of_ble_eq_true rfl) ?_
  repeat (refine gV_s rfl (by first | exact trivial | omega) ?_)
  refine gV_cV (ok_isFlow (d := d) (M := M) hMM hf) mX7_isFlow_ok sX7_X7_isFlow rfl rfl rfl rfl rfl rfl ?_
  rintro r M' ⟨rfl, ⟨h1, rfl⟩ | ⟨h1, rfl⟩⟩
  · rw [hR.s10] at h1
    refine gV_in rfl (by unfold rng; omega) (by omega) ?_
    repeat (refine gV_s rfl (by first | exact trivial | omega) ?_)
    rw [hR.s29]
    exact ord_loop h hR hf h1.1 h1.2 (S 41 4).toNat 0 (-1) (by omega) rfl (by unfold rng; omega) (fun v v0 => by unfold lastP; omega)
  · rw [hR.s10] at h1
    refine gV_it rfl (by unfold rng; omega) rfl ?_
    repeat (refine gV_s rfl (by first | exact trivial | omega) ?_)
    exact gV_ret rfl trivial (dMr (by unfold rOrdered; rw [if_neg h1]) hR)
theorem ok_mTold {d : Nat} {S M : Mem} {B w : Int} (h : NI S) (hw : rng w) (hR : RM S M B) (hB : B + 1700000 ≤ 2000000000) : gOk mX7_told (d + 1) [vR 47, vI w] M (dM (rTold S w, S) M B) := by
  have hMM := MR_of h hR (by omega)
  have hno := h.1.2.2.2.2.1
  have e15 : M 47 15 = S 5 1 := hR.s15
  refine gOk_of mX7_told_ok (by simp) (Nat.le_of_ble_eq_true rfl) ?_
  unfold rTold
  by_cases hc : 0 ≤ w ∧ w ≤ 10
  · have hcs : w = 0 ∨ w = 1 ∨ w = 2 ∨ w = 3 ∨ w = 4 ∨ w = 5 ∨ w = 6 ∨ w = 7 ∨ w = 8 ∨ w = 9 ∨ w = 10 := by omega
    rcases hcs with rfl | rfl | rfl | rfl | rfl | rfl | rfl | rfl | rfl | rfl | rfl
    · repeat (refine gV_s rfl (by first | exact trivial | omega) ?_)
      refine gV_swIn 60 rfl (by unfold rng; omega) (by decide) (by decide) rfl (by decide) ?_
      repeat (refine gV_s rfl (by first | exact trivial | omega) ?_)
      exact gV_ret rfl trivial (dMr (by rw [hR.s0]; rfl) hR)
    · repeat (refine gV_s rfl (by first | exact trivial | omega) ?_)
      refine gV_swIn 65 rfl (by unfold rng; omega) (by decide) (by decide) rfl (by decide) ?_
      repeat (refine gV_s rfl (by first | exact trivial | omega) ?_)
      exact gV_ret rfl trivial (dMr (by rw [hR.s1]; rfl) hR)
    · repeat (refine gV_s rfl (by first | exact trivial | omega) ?_)
      refine gV_swIn 70 rfl (by unfold rng; omega) (by decide) (by decide) rfl (by decide) ?_
      repeat (refine gV_s rfl (by first | exact trivial | omega) ?_)
      exact gV_ret rfl trivial (dMr (by rw [hR.s10]; rfl) hR)
    · repeat (refine gV_s rfl (by first | exact trivial | omega) ?_)
      refine gV_swIn 75 rfl (by unfold rng; omega) (by decide) (by decide) rfl (by decide) ?_
      repeat (refine gV_s rfl (by first | exact trivial | omega) ?_)
      exact gV_ret rfl trivial (dMr (by rw [hR.s16]; rfl) hR)
    · repeat (refine gV_s rfl (by first | exact trivial | omega) ?_)
      refine gV_swIn 80 rfl (by unfold rng; omega) (by decide) (by decide) rfl (by decide) ?_
      repeat (refine gV_s rfl (by first | exact trivial | omega) ?_)
      refine gV_cV (ok_inState (d := d) (M := M) (s := 0) (l := -1) (P := fun r M2 => r = vI (S 41 0) ∧ M2 = M) hMM (by unfold rng; omega) (by unfold rng; omega) ⟨by rw [cin_a h hR (by decide) (by decide)], rfl⟩) mX7_inState_ok sX7_X7_inState rfl rfl rfl rfl rfl rfl ?_
      rintro r M2 ⟨rfl, rfl⟩
      exact gV_ret rfl trivial (dMr rfl hR)
    · repeat (refine gV_s rfl (by first | exact trivial | omega) ?_)
      refine gV_swIn 87 rfl (by unfold rng; omega) (by decide) (by decide) rfl (by decide) ?_
      repeat (refine gV_s rfl (by first | exact trivial | omega) ?_)
      refine gV_cV (ok_inState (d := d) (M := M) (s := 1) (l := -1) (P := fun r M2 => r = vI (S 41 1) ∧ M2 = M) hMM (by unfold rng; omega) (by unfold rng; omega) ⟨by rw [cin_a h hR (by decide) (by decide)], rfl⟩) mX7_inState_ok sX7_X7_inState rfl rfl rfl rfl rfl rfl ?_
      rintro r M2 ⟨rfl, rfl⟩
      exact gV_ret rfl trivial (dMr rfl hR)
    · repeat (refine gV_s rfl (by first | exact trivial | omega) ?_)
      refine gV_swIn 94 rfl (by unfold rng; omega) (by decide) (by decide) rfl (by decide) ?_
      repeat (refine gV_s rfl (by first | exact trivial | omega) ?_)
      refine gV_cV (ok_inState (d := d) (M := M) (s := 2) (l := -1) (P := fun r M2 => r = vI (S 41 2) ∧ M2 = M) hMM (by unfold rng; omega) (by unfold rng; omega) ⟨by rw [cin_a h hR (by decide) (by decide)], rfl⟩) mX7_inState_ok sX7_X7_inState rfl rfl rfl rfl rfl rfl ?_
      rintro r M2 ⟨rfl, rfl⟩
      exact gV_ret rfl trivial (dMr rfl hR)
    · repeat (refine gV_s rfl (by first | exact trivial | omega) ?_)
      refine gV_swIn 101 rfl (by unfold rng; omega) (by decide) (by decide) rfl (by decide) ?_
      repeat (refine gV_s rfl (by first | exact trivial | omega) ?_)
      refine gV_cV (ok_inState (d := d) (M := M) (s := 3) (l := -1) (P := fun r M2 => r = vI (S 41 3) ∧ M2 = M) hMM (by unfold rng; omega) (by unfold rng; omega) ⟨by rw [cin_a h hR (by decide) (by decide)], rfl⟩) mX7_inState_ok sX7_X7_inState rfl rfl rfl rfl rfl rfl ?_
      rintro r M2 ⟨rfl, rfl⟩
      exact gV_ret rfl trivial (dMr rfl hR)
    · repeat (refine gV_s rfl (by first | exact trivial | omega) ?_)
      refine gV_swIn 108 rfl (by unfold rng; omega) (by decide) (by decide) rfl (by decide) ?_
      repeat (refine gV_s rfl (by first | exact trivial | omega) ?_)
      refine gV_cV (ok_inState (d := d) (M := M) (s := 4) (l := -1) (P := fun r M2 => r = vI (S 41 4) ∧ M2 = M) hMM (by unfold rng; omega) (by unfold rng; omega) ⟨by rw [cin_a h hR (by decide) (by decide)], rfl⟩) mX7_inState_ok sX7_X7_inState rfl rfl rfl rfl rfl rfl ?_
      rintro r M2 ⟨rfl, rfl⟩
      exact gV_ret rfl trivial (dMr rfl hR)
    · repeat (refine gV_s rfl (by first | exact trivial | omega) ?_)
      refine gV_swIn 115 rfl (by unfold rng; omega) (by decide) (by decide) rfl (by decide) ?_
      repeat (refine gV_s rfl (by first | exact trivial | omega) ?_)
      refine gV_cV (ok_inState (d := d) (M := M) (s := 5) (l := -1) (P := fun r M2 => r = vI (S 41 5) ∧ M2 = M) hMM (by unfold rng; omega) (by unfold rng; omega) ⟨by rw [cin_a h hR (by decide) (by decide)], rfl⟩) mX7_inState_ok sX7_X7_inState rfl rfl rfl rfl rfl rfl ?_
      rintro r M2 ⟨rfl, rfl⟩
      exact gV_ret rfl trivial (dMr rfl hR)
    · repeat (refine gV_s rfl (by first | exact trivial | omega) ?_)
      refine gV_swIn 122 rfl (by unfold rng; omega) (by decide) (by decide) rfl (by decide) ?_
      repeat (refine gV_s rfl (by first | exact trivial | omega) ?_)
      rw [e15]
      refine gV_i rfl (by unfold rng; omega) (fun h2 => ?_) (fun h2 => ?_)
      · repeat (refine gV_s rfl (by first | exact trivial | omega) ?_)
        exact gV_ret rfl trivial (dMr h2.symm hR)
      · repeat (refine gV_s rfl (by first | exact trivial | omega) ?_)
        exact gV_ret rfl trivial (dMr (show (1 : Int) = S 5 1 by omega) hR)
  · repeat (refine gV_s rfl (by first | exact trivial | omega) ?_)
    refine gV_swOut 135 rfl hw (by omega) (by decide) ?_
    repeat (refine gV_s rfl (by first | exact trivial | omega) ?_)
    refine gV_ret rfl trivial (dMr ?_ hR)
    simp only [show ¬ w = 0 by omega, show ¬ w = 1 by omega, show ¬ w = 2 by omega, show ¬ w = 3 by omega, show ¬ w = 4 by omega, show ¬ w = 5 by omega, show ¬ w = 6 by omega, show ¬ w = 7 by omega, show ¬ w = 8 by omega, show ¬ w = 9 by omega, show ¬ w = 10 by omega, if_false]
theorem ok_mPlan {d : Nat} {S M : Mem} {B b : Int} (h : NI S) (hb : rng b) (hR : RM S M B) : gOk mX7_plan (d + 2) [vR 47, vI b] M (dM (rPlan S b, S) M B) := by
  have hp := h.1.2.2.2.2.2.2.2
  have e31 : M 47 31 = S 6 0 := hR.s31
  refine gOk_of mX7_plan_ok (by simp) (Nat.le_of_ble_eq_true rfl) ?_
  repeat (refine gV_s rfl (by first | exact trivial | omega) ?_)
  refine gV_cS (ok_isBucket (d := d) (M := M) hb) mX7_isBucket_ok sX7_X7_isBucket rfl rfl rfl rfl ?_
  rintro r M' ⟨rfl, ⟨h1, rfl⟩ | ⟨h1, rfl⟩⟩
  · refine gV_in rfl (by unfold rng; omega) (by omega) ?_
    repeat (refine gV_s rfl (by first | exact trivial | omega) ?_)
    rw [e31]
    refine gV_i rfl (by unfold rng; omega) (fun h2 => ?_) (fun h2 => ?_)
    · repeat (refine gV_s rfl (by first | exact trivial | omega) ?_)
      exact gV_ret rfl trivial (dMr (by unfold rPlan; rw [if_pos h1, if_pos h2]) hR)
    · repeat (refine gV_s rfl (by first | exact trivial | omega) ?_)
      exact gV_ret rfl trivial (dMr (by unfold rPlan; rw [if_pos h1, if_neg h2, hR.e70]) hR)
  · refine gV_it rfl (by unfold rng; omega) rfl ?_
    repeat (refine gV_s rfl (by first | exact trivial | omega) ?_)
    exact gV_ret rfl trivial (dMr (by unfold rPlan; rw [if_neg h1]) hR)
end
section
/-! Plans: a link for each bucket; of those that are even the one with the fewest moves, of equal ones the first. -/
def rk (t : Int → Int) : Nat → Int
  | 0 => 0
  | n + 1 => 4 * rk t n + t n
def dig (t : Int → Int) : Prop := ∀ b : Int, 0 ≤ b → b < 8 → 0 ≤ t b ∧ t b ≤ 3
theorem rk_inj {s t : Int → Int} (hs : dig s) (ht : dig t) : ∀ n : Nat, n ≤ 8 → rk s n = rk t n → ∀ b : Int, 0 ≤ b → b < n → s b = t b
  | 0, _, _, b, b0, b1 => by omega
  | n + 1, hn, h, b, b0, b1 => by
    have h1 := hs n (by omega) (by omega)
    have h2 := ht n (by omega) (by omega)
    simp only [rk] at h
    have e1 : rk s n = rk t n := by omega
    have e2 : s n = t n := by omega
    by_cases e : b = n
    · rw [e]; exact e2
    · exact rk_inj hs ht n (by omega) e1 b b0 (by omega)
theorem rk_cong {s t : Int → Int} : ∀ {n : Nat}, (∀ b : Int, 0 ≤ b → b < n → s b = t b) → rk s n = rk t n
  | 0, _ => rfl
  | n + 1, h => by simp only [rk]; rw [rk_cong (n := n) (fun b a c => h b a (by omega)), h n (by omega) (by omega)]
theorem rk_lt {s t : Int → Int} (hs : dig s) (ht : dig t) {b : Nat} (h : rk s b < rk t b) : ∀ n : Nat, b + n ≤ 8 → rk s (b + n) < rk t (b + n)
  | 0, _ => h
  | n + 1, hn => by
    have ih := rk_lt hs ht h n (by omega)
    have h1 := hs (b + n : Nat) (by omega) (by omega)
    have h2 := ht (b + n : Nat) (by omega) (by omega)
    rw [show b + (n + 1) = (b + n) + 1 by omega]
    simp only [rk]
    omega
theorem rk_le {s t : Int → Int} {b : Nat} (h : rk s b ≤ rk t b) : ∀ n : Nat, (∀ i : Int, b ≤ i → i < (b + n : Nat) → s i ≤ t i) → rk s (b + n) ≤ rk t (b + n)
  | 0, _ => h
  | n + 1, hn => by
    have ih := rk_le h n (fun i a c => hn i a (by push_cast at c ⊢; omega))
    have h1 := hn (b + n : Nat) (by omega) (by push_cast; omega)
    rw [show b + (n + 1) = (b + n) + 1 by omega]
    simp only [rk]
    omega
def Imp (E Q : (Int → Int) → Prop) (mv : (Int → Int) → Int) (F h : Int) (pl : Int → Int) (F' h' : Int) (pl' : Int → Int) : Prop :=
  (F' = F ∧ h' = h ∧ pl' = pl ∧ ∀ s, Q s → E s → F ≤ mv s) ∨ (F' < F ∧ h' = 1 ∧ ∃ t, Q t ∧ E t ∧ mv t = F' ∧ (∀ j, pl' j = if 0 ≤ j ∧ j < 8 then t j else pl j) ∧ ∀ s, Q s → E s → F' < mv s ∨ (F' = mv s ∧ rk t 8 ≤ rk s 8))
section IMP
variable {E Q Q' Q1 Q2 : (Int → Int) → Prop} {mv : (Int → Int) → Int} {F h F1 h1 F2 h2 : Int} {pl pl1 pl2 : Int → Int}
theorem Imp_tr (a : Imp E Q1 mv F h pl F1 h1 pl1) (b : Imp E Q2 mv F1 h1 pl1 F2 h2 pl2) (hlt : ∀ s1 s2, Q1 s1 → Q2 s2 → rk s1 8 ≤ rk s2 8) : Imp E (fun s => Q1 s ∨ Q2 s) mv F h pl F2 h2 pl2 := by
  rcases a with ⟨rfl, rfl, rfl, a4⟩ | ⟨a1, a2, t, a3, a4, a5, a6, a7⟩
  · rcases b with ⟨rfl, rfl, rfl, b4⟩ | ⟨b1, b2, t, b3, b4, b5, b6, b7⟩
    · exact Or.inl ⟨rfl, rfl, rfl, fun s hs he => by rcases hs with q | q; exact a4 s q he; exact b4 s q he⟩
    · refine Or.inr ⟨b1, b2, t, Or.inr b3, b4, b5, b6, fun s hs he => ?_⟩
      rcases hs with q | q
      · have := a4 s q he
        exact Or.inl (by omega)
      · exact b7 s q he
  · rcases b with ⟨rfl, rfl, rfl, b4⟩ | ⟨b1, b2, t2, b3, b4, b5, b6, b7⟩
    · refine Or.inr ⟨a1, a2, t, Or.inl a3, a4, a5, a6, fun s hs he => ?_⟩
      rcases hs with q | q
      · exact a7 s q he
      · have h1 := b4 s q he
        have h2 := hlt t s a3 q
        by_cases e : F2 = mv s
        · exact Or.inr ⟨e, h2⟩
        · exact Or.inl (by omega)
    · refine Or.inr ⟨by omega, b2, t2, Or.inr b3, b4, b5, fun j => ?_, fun s hs he => ?_⟩
      · rw [b6 j, a6 j]
        split <;> rfl
      · rcases hs with q | q
        · have := a7 s q he
          exact Or.inl (by omega)
        · exact b7 s q he
theorem Imp_iff (hq : ∀ s, Q s ↔ Q' s) (a : Imp E Q mv F h pl F1 h1 pl1) : Imp E Q' mv F h pl F1 h1 pl1 := by
  rcases a with ⟨a1, a2, a3, a4⟩ | ⟨a1, a2, t, a3, a4, a5, a6, a7⟩
  · exact Or.inl ⟨a1, a2, a3, fun s hs => a4 s ((hq s).mpr hs)⟩
  · exact Or.inr ⟨a1, a2, t, (hq t).mp a3, a4, a5, a6, fun s hs => a7 s ((hq s).mpr hs)⟩
theorem Imp_le (a : Imp E Q mv F h pl F1 h1 pl1) : F1 ≤ F := by
  rcases a with a | a
  · exact Int.le_of_eq a.1
  · exact Int.le_of_lt a.1
theorem Imp_no (hno : ∀ s, Q s → E s → F ≤ mv s) : Imp E Q mv F h pl F h pl := Or.inl ⟨rfl, rfl, rfl, hno⟩
theorem Imp_norm (hq : ∀ s, Q s → Q' s) (hn : ∀ s, Q' s → E s → ∃ s', Q s' ∧ E s' ∧ (mv s' < mv s ∨ (mv s' = mv s ∧ rk s' 8 = rk s 8))) (a : Imp E Q mv F h pl F1 h1 pl1) : Imp E Q' mv F h pl F1 h1 pl1 := by
  rcases a with ⟨a1, a2, a3, a4⟩ | ⟨a1, a2, t, a3, a4, a5, a6, a7⟩
  · refine Or.inl ⟨a1, a2, a3, fun s hs he => ?_⟩
    obtain ⟨s', b1, b2, b3⟩ := hn s hs he
    have := a4 s' b1 b2
    omega
  · refine Or.inr ⟨a1, a2, t, hq t a3, a4, a5, a6, fun s hs he => ?_⟩
    obtain ⟨s', b1, b2, b3⟩ := hn s hs he
    have := a7 s' b1 b2
    omega
theorem Imp_fun (hd : ∀ s, Q s → dig s) (a : Imp E Q mv F h pl F1 h1 pl1) (b : Imp E Q mv F h pl F2 h2 pl2) : F1 = F2 ∧ h1 = h2 ∧ pl1 = pl2 := by
  rcases a with ⟨a1, a2, a3, a4⟩ | ⟨a1, a2, t, a3, a4, a5, a6, a7⟩
  · rcases b with ⟨b1, b2, b3, b4⟩ | ⟨b1, b2, t2, b3, b4, b5, b6, b7⟩
    · exact ⟨by omega, by omega, by rw [a3, b3]⟩
    · have := a4 t2 b3 b4
      omega
  · rcases b with ⟨b1, b2, b3, b4⟩ | ⟨b1, b2, t2, b3, b4, b5, b6, b7⟩
    · have := b4 t a3 a4
      omega
    · have c1 := a7 t2 b3 b4
      have c2 := b7 t a3 a4
      have e : rk t 8 = rk t2 8 := by omega
      refine ⟨by omega, by omega, funext (fun j => ?_)⟩
      rw [a6 j, b6 j]
      split
      · rename_i hj
        exact rk_inj (hd t a3) (hd t2 b3) 8 (by omega) e j hj.1 hj.2
      · rfl
end IMP
/-! moves and loads of a plan -/
def mvN (on t : Int → Int) (n : Nat) : Int := ct (fun b => decide (t b ≠ on b)) n
def ldN (w t : Int → Int) (l : Int) (n : Nat) : Int := sm (fun b => if t b = l then w b else 0) n
def vld (up : Int → Int) (L : Int) (t : Int → Int) (n : Nat) : Prop := ∀ b : Int, 0 ≤ b → b < n → 0 ≤ t b ∧ t b < L ∧ up (t b) = 1
def wth (A W k : Int) (sp : Int → Int) (l x : Int) : Prop := x * A * 100 ≤ (100 + k) * W * sp l
def evn (A W k : Int) (sp up : Int → Int) (L : Int) (w t : Int → Int) : Prop := ∀ l, 0 ≤ l → l < L → up l = 1 → wth A W k sp l (ldN w t l 8)
theorem mvN_cong {on s t : Int → Int} {n : Nat} (h : ∀ b : Int, 0 ≤ b → b < n → s b = t b) : mvN on s n = mvN on t n := ct_cong (fun j a b => by rw [h j a b])
theorem ldN_cong {w s t : Int → Int} {l : Int} {n : Nat} (h : ∀ b : Int, 0 ≤ b → b < n → s b = t b) : ldN w s l n = ldN w t l n := sm_cong (fun j a b => by rw [h j a b])
theorem mvN_mono {on t : Int → Int} {b : Nat} : ∀ n : Nat, mvN on t b ≤ mvN on t (b + n)
  | 0 => Int.le_refl _
  | n + 1 => by
    have := mvN_mono (on := on) (t := t) (b := b) n
    rw [show b + (n + 1) = (b + n) + 1 by omega]
    unfold mvN at *
    rw [ct_s]
    split <;> omega
theorem ldN_mono {w t : Int → Int} {l : Int} (hw : ∀ i : Int, 0 ≤ i → i < 8 → 0 ≤ w i) {b : Nat} : ∀ n : Nat, b + n ≤ 8 → ldN w t l b ≤ ldN w t l (b + n)
  | 0, _ => Int.le_refl _
  | n + 1, hn => by
    have := ldN_mono (t := t) (l := l) hw (b := b) n (by omega)
    have h2 := hw (b + n : Nat) (by omega) (by omega)
    rw [show b + (n + 1) = (b + n) + 1 by omega]
    unfold ldN at *
    rw [sm_s]
    split <;> omega
theorem ldN_le {w t : Int → Int} {l : Int} (hw : ∀ i : Int, 0 ≤ i → i < 8 → 0 ≤ w i) : ∀ n : Nat, n ≤ 8 → 0 ≤ ldN w t l n ∧ ldN w t l n ≤ sm w n
  | 0, _ => ⟨Int.le_refl _, Int.le_refl _⟩
  | n + 1, hn => by
    have := ldN_le (t := t) (l := l) hw n (by omega)
    have h2 := hw n (by omega) (by omega)
    unfold ldN at *
    rw [sm_s, sm_s]
    split <;> omega
theorem sm_mono {w : Int → Int} (hw : ∀ i : Int, 0 ≤ i → i < 8 → 0 ≤ w i) {b : Nat} : ∀ n : Nat, b + n ≤ 8 → sm w b ≤ sm w (b + n)
  | 0, _ => Int.le_refl _
  | n + 1, hn => by
    have := sm_mono hw (b := b) n (by omega)
    have h2 := hw (b + n : Nat) (by omega) (by omega)
    rw [show b + (n + 1) = (b + n) + 1 by omega, sm_s]
    omega
theorem wth_mono {A W k : Int} {sp : Int → Int} {l x y : Int} (hA : 0 ≤ A) (hxy : x ≤ y) (h : wth A W k sp l y) : wth A W k sp l x := by
  unfold wth at *
  have : x * A ≤ y * A := Int.mul_le_mul_of_nonneg_right hxy hA
  omega
/-- the plans that go on as t up to b; buckets without load stay -/
def Qb (up : Int → Int) (L : Int) (w on : Int → Int) (t : Int → Int) (b : Nat) : (Int → Int) → Prop := fun s => vld up L s 8 ∧ (∀ j : Int, 0 ≤ j → j < b → s j = t j) ∧ (∀ j : Int, b ≤ j → j < 8 → w j = 0 → s j = on j)
def Qa (up : Int → Int) (L : Int) : (Int → Int) → Prop := fun s => vld up L s 8
theorem vld_dig {up : Int → Int} {L : Int} {t : Int → Int} (hL : L ≤ 4) (h : vld up L t 8) : dig t := fun b b0 b8 => by
  have := h b b0 b8
  omega
/-- putting one bucket without load back -/
theorem put_back {up on w : Int → Int} {L A W k : Int} {sp : Int → Int} (hon : vld up L on 8) {s : Int → Int} (hs : vld up L s 8) (he : evn A W k sp up L w s) : ∀ n : Nat, n ≤ 8 → ∃ s', vld up L s' 8 ∧ evn A W k sp up L w s' ∧ (∀ j : Int, 0 ≤ j → j < n → w j = 0 → s' j = on j) ∧ ((mvN on s' 8 < mvN on s 8) ∨ ∀ j : Int, 0 ≤ j → j < 8 → s' j = s j)
  | 0, _ => ⟨s, hs, he, fun j a b => by omega, Or.inr (fun j a b => rfl)⟩
  | n + 1, hn => by
    obtain ⟨s1, a1, a2, a3, a4⟩ := put_back (A := A) (W := W) (k := k) (sp := sp) hon hs he n (by omega)
    by_cases hc : w n = 0 ∧ s1 n ≠ on n
    · have e1 : ∀ l, ldN w (up1 s1 n (on n)) l 8 = ldN w s1 l 8 := fun l => sm_cong (fun j _ _ => by
        by_cases e : j = n
        · subst e
          rw [hc.1]
          split <;> split <;> rfl
        · rw [up1_n _ _ e])
      have e2 : mvN on (up1 s1 n (on n)) 8 < mvN on s1 8 := ct_lt (i := n) (fun j _ _ hj => by
        by_cases e : j = n
        · subst e
          rw [up1_s] at hj
          simp at hj
        · rw [up1_n _ _ e] at hj
          exact hj) (by omega) (by omega) (by rw [up1_s]; simp) (by simp [hc.2])
      refine ⟨up1 s1 n (on n), fun b b0 b8 => ?_, fun l l0 lL hu => ?_, fun j j0 j1 hw => ?_, Or.inl ?_⟩
      · rw [up1_e]
        split
        · exact hon n (by omega) (by omega)
        · exact a1 b b0 b8
      · rw [e1]; exact a2 l l0 lL hu
      · rw [up1_e]
        split
        · rename_i e; rw [e]
        · exact a3 j j0 (by omega) hw
      · rcases a4 with q | q
        · omega
        · have := mvN_cong (on := on) (n := 8) (fun b b0 b1 => q b b0 (by omega))
          omega
    · refine ⟨s1, a1, a2, fun j j0 j1 hw => ?_, a4⟩
      by_cases e : j = n
      · subst e
        by_cases e2 : s1 n = on n
        · exact e2
        · exact absurd ⟨hw, e2⟩ hc
      · exact a3 j j0 (by omega) hw
/-- all plans, where those that keep the buckets without load have been looked through -/
theorem Imp_all {up on w : Int → Int} {L A W k : Int} {sp : Int → Int} {t : Int → Int} {F h F1 h1 : Int} {pl pl1 : Int → Int} (hon : vld up L on 8) (a : Imp (evn A W k sp up L w) (Qb up L w on t 0) (fun s => mvN on s 8) F h pl F1 h1 pl1) : Imp (evn A W k sp up L w) (Qa up L) (fun s => mvN on s 8) F h pl F1 h1 pl1 := by
  refine Imp_norm (fun s hs => hs.1) (fun s hs he => ?_) a
  obtain ⟨s', b1, b2, b3, b4⟩ := put_back (A := A) (W := W) (k := k) (sp := sp) hon hs he 8 (by omega)
  refine ⟨s', ⟨b1, fun j a b => by omega, fun j a b hw => b3 j (by omega) (by omega) hw⟩, b2, ?_⟩
  rcases b4 with q | q
  · exact Or.inl q
  · exact Or.inr ⟨mvN_cong (fun b b0 b1 => q b b0 (by omega)), rk_cong (fun b b0 b1 => q b b0 (by omega))⟩
/-- loads of the links that are up: all loads -/
theorem ld_all {up w t : Int → Int} {L : Nat} : ∀ n : Nat, vld up L t n → sm (fun l => if up l = 1 then ldN w t l n else 0) L = sm w n
  | 0, _ => by
    have : ∀ m : Nat, sm (fun l => if up l = 1 then ldN w t l 0 else 0) m = 0 := fun m => by
      induction m with
      | zero => rfl
      | succ m ih => rw [sm_s, ih]; unfold ldN; simp [sm]
    rw [this]
    rfl
  | n + 1, h => by
    have ih := ld_all (w := w) n (fun b b0 b1 => h b b0 (by omega))
    obtain ⟨t0, t1, t2⟩ := h n (by omega) (by omega)
    rw [sm_s w n, ← ih]
    have e1 : w n = sm (fun l => if l = t n then (if up l = 1 then w n else 0) else 0) L := by rw [sm_one t0, if_pos t1, if_pos t2]
    rw [e1, ← sm_add]
    refine sm_cong (fun l _ _ => ?_)
    unfold ldN
    rw [sm_s]
    by_cases c1 : up l = 1 <;> by_cases c2 : l = t n
    · rw [if_pos c1, if_pos c1, if_pos c2, if_pos c1, if_pos c2.symm]
    · rw [if_pos c1, if_pos c1, if_neg c2, if_neg (fun q => c2 q.symm)]
    · rw [if_neg c1, if_neg c1, if_pos c2, if_neg c1]; rfl
    · rw [if_neg c1, if_neg c1, if_neg c2]; rfl
end
section
/-! The class's planner. -/
theorem anyUp_loop {d : Nat} {M : Mem} {lo : Int → Int} {x : Int} (h : AI M lo x) : ∀ (n k : Nat), (k : Int) + n = M 1 0 → (∀ l : Int, 0 ≤ l → l < k → M 9 l ≠ 1) → gV mX3_isAnyUp d (yn (∃ l, 0 ≤ l ∧ l < M 1 0 ∧ M 9 l = 1) M) 7 [vR 1, vI k] [vI (M 1 0), vI k] M
  | 0, k, hk, hn => by
    have hL := h.1.1
    refine gV_it rfl (by unfold rng; omega) (by omega) ?_
    repeat (refine gV_s rfl (by first | exact trivial | omega) ?_)
    exact gV_ret rfl (Or.inl rfl) ⟨rfl, Or.inr ⟨fun ⟨l, a, b, c⟩ => hn l a (by omega) c, rfl⟩⟩
  | n + 1, k, hk, hn => by
    have hL := h.1.1
    have hu := h.2.1.2.1 k
    refine gV_in rfl (by unfold rng; omega) (by omega) ?_
    repeat (refine gV_s rfl (by first | exact trivial | omega) ?_)
    refine gV_i rfl (by unfold rng; omega) (fun h1 => ?_) (fun h1 => ?_)
    · repeat (refine gV_s rfl (by first | exact trivial | omega) ?_)
      refine anyUp_loop h n (k + 1) (by push_cast; omega) (fun l a b => ?_)
      by_cases e : l = k
      · subst e; omega
      · exact hn l a (by push_cast at b; omega)
    · repeat (refine gV_s rfl (by first | exact trivial | omega) ?_)
      exact gV_ret rfl (Or.inr rfl) ⟨rfl, Or.inl ⟨⟨k, by omega, by omega, by omega⟩, rfl⟩⟩
theorem ok_anyUp {d : Nat} {M : Mem} {lo : Int → Int} {x : Int} (h : AI M lo x) : gOk mX3_isAnyUp d [vR 1] M (yn (∃ l, 0 ≤ l ∧ l < M 1 0 ∧ M 9 l = 1) M) := by
  have hL := h.1.1
  refine gOk_of mX3_isAnyUp_ok (by simp) (Nat.le_of_ble_eq_true rfl) ?_
  repeat (refine gV_s rfl (by first | exact trivial | omega) ?_)
  exact anyUp_loop h (M 1 0).toNat 0 (by omega) (fun l a b => by omega)
theorem AI_pl {S T : Mem} {lo : Int → Int} {x : Int} (h : AI S lo x) (hr : ∀ r, r ≠ 6 → r < 43 → T r = S r) (h6 : T 6 0 = 0 ∨ T 6 0 = 1) : AI T lo x := by
  have eq : ∀ l' p, 0 ≤ l' → l' < 4 → qr T l' p = qr S l' p := fun l' p a b => by
    show T (11 + l'.toNat) p = _
    rw [hr _ (by omega) (by omega)]
  obtain ⟨ha, hl, hb, hn, hh, hf, ht, ks, kh, kf, kl, hq, hi, ho⟩ := h
  unfold AI Ja
  simp only [hr, ne_eq, not_false_eq_true, Nat.reduceEqDiff, Nat.reduceLT, Nat.reduceLeDiff, true_or, or_true, forall_const]
  exact ⟨⟨ha.1, ha.2.1, ha.2.2.1, ha.2.2.2.1, ha.2.2.2.2.1, ha.2.2.2.2.2.1, ha.2.2.2.2.2.2.1, h6⟩, hl, hb, hn, hh, hf, ht, ks, kh, kf, kl, Jq_rw hq eq, Ji_rw hi ha.1.2 eq, ho⟩
theorem load_cong {S T : Mem} (h3 : T 3 = S 3) (h19 : T 19 = S 19) (h24 : T 24 = S 24) (h25 : T 25 = S 25) (l : Int) : load T l = load S l := by
  unfold load ldL bkO
  rw [h3, h19, h24, h25]
theorem rates_cong {S T : Mem} (h3 : T 3 = S 3) (h24 : T 24 = S 24) (h25 : T 25 = S 25) (b : Int) : rates T b = rates S b := by
  unfold rates rtB bkO
  rw [h3, h24, h25]
def upSp (S : Mem) : Int → Int := fun l => if S 9 l = 1 then S 7 l else 0
def upLd (S : Mem) : Int → Int := fun l => if S 9 l = 1 then load S l else 0
def MsP (S M' : Mem) (k : Int) (n : Nat) : Prop := (∀ r, r ≠ 6 → M' r = S r) ∧ M' 6 8 = sm (upSp S) n ∧ M' 6 9 = sm (upLd S) n ∧ M' 6 10 = k ∧ (∀ i, i ≠ 8 → i ≠ 9 → i ≠ 10 → M' 6 i = S 6 i)
theorem meas_loop {d : Nat} {S : Mem} {lo : Int → Int} {x k : Int} {P : PV → Mem → Prop} (h : AI S lo x) (hP : ∀ M', MsP S M' k (S 1 0).toNat → P none M') : ∀ (n j : Nat) (M : Mem), (j : Int) + n = S 1 0 → MsP S M k j → gV mX4_measure (d + 2) P 25 [vR 6, vI k, vI j] [vI (S 1 0), vI j] M := by
  have hL := h.1.1
  intro n
  induction n with
  | zero =>
    intro j M hj hM
    have e : j = (S 1 0).toNat := by omega
    subst e
    refine gV_it rfl (by unfold rng; omega) (by omega) ?_
    exact gV_retv rfl trivial (hP M hM)
  | succ n ih =>
    intro j M hj hM
    obtain ⟨m1, m2, m3, m4, m5⟩ := hM
    have hu := h.2.1.2.1 j
    have e1 : M 1 0 = S 1 0 := by rw [m1 1 (by decide)]
    have e9 : M 9 j = S 9 j := by rw [m1 9 (by decide)]
    have e7 : M 7 j = S 7 j := by rw [m1 7 (by decide)]
    refine gV_in rfl (by unfold rng; omega) (by omega) ?_
    repeat (refine gV_s rfl (by first | exact trivial | omega) ?_)
    rw [e9]
    refine gV_i rfl (by unfold rng; omega) (fun h1 => ?_) (fun h1 => ?_)
    · repeat (refine gV_s rfl (by first | exact trivial | omega) ?_)
      rw [e1]
      refine ih (j + 1) M (by push_cast; omega) ⟨m1, ?_, ?_, m4, m5⟩
      · rw [sm_s, m2, show upSp S j = 0 by unfold upSp; rw [if_neg (by omega)], Int.add_zero]
      · rw [sm_s, m3, show upLd S j = 0 by unfold upLd; rw [if_neg (by omega)], Int.add_zero]
    · have hu1 : S 9 j = 1 := by omega
      repeat (refine gV_s rfl (by first | exact trivial | omega) ?_)
      have hA : AI (mw M 6 8 (M 6 8 + M 7 j)) lo x := AI_pl h (fun r a b => by rw [mw_rn _ _ _ a, m1 r a]) (by rw [mw_rs, up1_n _ _ (by decide), m5 0 (by decide) (by decide) (by decide)]; exact h.1.2.2.2.2.2.2.2)
      have eld : load (mw M 6 8 (M 6 8 + M 7 j)) j = load S j := load_cong (by rw [mw_rn _ _ _ (by decide), m1 3 (by decide)]) (by rw [mw_rn _ _ _ (by decide), m1 19 (by decide)]) (by rw [mw_rn _ _ _ (by decide), m1 24 (by decide)]) (by rw [mw_rn _ _ _ (by decide), m1 25 (by decide)]) _
      refine gV_cV (ok_loadOf (d := d) (M := mw M 6 8 (M 6 8 + M 7 j)) (l := j) (P := fun r M' => r = vI (load S j) ∧ M' = mw M 6 8 (M 6 8 + M 7 j)) hA (by unfold rng; omega) ⟨by rw [eld], rfl⟩) mX4_loadOf_ok sX4_X4_loadOf rfl rfl rfl rfl rfl rfl ?_
      rintro r M' ⟨rfl, rfl⟩
      repeat (refine gV_s rfl (by first | exact trivial | omega) ?_)
      have e1' : (mw (mw M 6 8 (M 6 8 + M 7 j)) 6 9 (mw M 6 8 (M 6 8 + M 7 j) 6 9 + load S j)) 1 0 = S 1 0 := by rw [mw_rn _ _ _ (by decide), mw_rn _ _ _ (by decide), e1]
      have key : MsP S (mw (mw M 6 8 (M 6 8 + M 7 j)) 6 9 (mw M 6 8 (M 6 8 + M 7 j) 6 9 + load S j)) k (j + 1) := by
        refine ⟨fun r hr => by rw [mw_rn _ _ _ hr, mw_rn _ _ _ hr, m1 r hr], ?_, ?_, ?_, fun i a b c => ?_⟩
        · rw [mw_rs, up1_n _ _ (by decide), mw_rs, up1_s, sm_s, m2, e7, show upSp S j = S 7 j by unfold upSp; rw [if_pos hu1]]
        · rw [mw_rs, up1_s, mw_rs, up1_n _ _ (by decide), sm_s, m3, show upLd S j = load S j by unfold upLd; rw [if_pos hu1]]
        · rw [mw_rs, up1_n _ _ (by decide), mw_rs, up1_n _ _ (by decide), m4]
        · rw [mw_rs, up1_n _ _ b, mw_rs, up1_n _ _ a, m5 i a b c]
      have := ih (j + 1) _ (by push_cast; omega) key
      rw [← e1'] at this
      exact this
theorem ok_measure {d : Nat} {S : Mem} {lo : Int → Int} {x k : Int} {P : PV → Mem → Prop} (h : AI S lo x) (hP : ∀ M', MsP S M' k (S 1 0).toNat → P none M') : gOk mX4_measure (d + 2) [vR 6, vI k] S P := by
  have hL := h.1.1
  refine gOk_of mX4_measure_ok (by simp) (Nat.le_of_ble_eq_true rfl) ?_
  repeat (refine gV_s rfl (by first | exact trivial | omega) ?_)
  have e1' : (mw (mw (mw S 6 10 k) 6 8 0) 6 9 0) 1 0 = S 1 0 := by rw [mw_rn _ _ _ (by decide), mw_rn _ _ _ (by decide), mw_rn _ _ _ (by decide)]
  have := meas_loop (d := d) h hP (S 1 0).toNat 0 (mw (mw (mw S 6 10 k) 6 8 0) 6 9 0) (by omega) ⟨fun r hr => by rw [mw_rn _ _ _ hr, mw_rn _ _ _ hr, mw_rn _ _ _ hr], by rw [mw_rs, up1_n _ _ (by decide), mw_rs, up1_s]; rfl, by rw [mw_rs, up1_s]; rfl, by rw [mw_rs, up1_n _ _ (by decide), mw_rs, up1_n _ _ (by decide), mw_rs, up1_s], fun i a b c => by rw [mw_rs, up1_n _ _ b, mw_rs, up1_n _ _ a, mw_rs, up1_n _ _ c]⟩
  rw [← e1'] at this
  exact this
theorem mul_bd {x y a b : Int} (x0 : 0 ≤ x) (x1 : x ≤ a) (y0 : 0 ≤ y) (y1 : y ≤ b) : 0 ≤ x * y ∧ x * y ≤ a * b := by
  refine ⟨Int.mul_nonneg x0 y0, ?_⟩
  exact Int.mul_le_mul x1 y1 y0 (by omega)
theorem ok_within {d : Nat} {M : Mem} {l x : Int} (l0 : 0 ≤ l) (l4 : l < 4) (hx : 0 ≤ x ∧ x ≤ 3200) (hA : 0 ≤ M 6 8 ∧ M 6 8 ≤ 32) (hW : 0 ≤ M 6 9 ∧ M 6 9 ≤ 1600) (hk : 0 ≤ M 6 10 ∧ M 6 10 ≤ 1000) (hs : 0 ≤ M 7 l ∧ M 7 l ≤ 8) : gOk mX4_isWithinShare d [vR 6, vI l, vI x] M (yn (wth (M 6 8) (M 6 9) (M 6 10) (M 7) l x) M) := by
  have b1 := mul_bd hx.1 hx.2 hA.1 hA.2
  have b2 := mul_bd (x := 100 + M 6 10) (a := 1100) (by omega) (by omega) hW.1 hW.2
  have b3 := mul_bd b2.1 b2.2 hs.1 hs.2
  refine gOk_of mX4_isWithinShare_ok (by simp) (Nat.le_of_ble_eq_true rfl) ?_
  repeat (refine gV_s rfl (by first | exact trivial | omega) ?_)
  refine gV_i rfl (by unfold rng; omega) (fun h1 => ?_) (fun h1 => ?_)
  · repeat (refine gV_s rfl (by first | exact trivial | omega) ?_)
    exact gV_ret rfl (Or.inl rfl) ⟨rfl, Or.inr ⟨by unfold wth; omega, rfl⟩⟩
  · repeat (refine gV_s rfl (by first | exact trivial | omega) ?_)
    exact gV_ret rfl (Or.inr rfl) ⟨rfl, Or.inl ⟨by unfold wth; omega, rfl⟩⟩
theorem ok_keep {d : Nat} {M : Mem} {m : Int} {P : PV → Mem → Prop} (hP : P none (mw (mcp (mw M 6 11 m) 46 43 8) 6 0 1)) : gOk mX4_keep (d + 1) [vR 6, vI m] M P := by
  refine gOk_of mX4_keep_ok (by simp) (Nat.le_of_ble_eq_true rfl) ?_
  repeat (refine gV_s rfl (by first | exact trivial | omega) ?_)
  refine gV_copy (n := 8) rfl rfl rfl rfl (by decide) ?_
  repeat (refine gV_s rfl (by first | exact trivial | omega) ?_)
  exact gV_retv rfl trivial hP
end
section
/-! The class's search for a plan. -/
theorem mcp_o {M : Mem} {a b : Nat} {n : Int} {r : Nat} (h : r ≠ b) : mcp M a b n r = M r := by funext i; unfold mcp; rw [if_neg (fun q => h q.1)]
theorem mcp_s {M : Mem} {a b : Nat} {n i : Int} : mcp M a b n b i = if 0 ≤ i ∧ i < n then M a i else M b i := by
  unfold mcp
  by_cases c : 0 ≤ i ∧ i < n
  · rw [if_pos ⟨rfl, c⟩, if_pos c]
  · rw [if_neg (fun q => c q.2), if_neg c]
def Pl (S M : Mem) : Prop := (∀ r, r ≠ 6 → r ≠ 43 → r ≠ 45 → r ≠ 46 → M r = S r) ∧ (∀ i, i ≠ 0 → i ≠ 11 → M 6 i = S 6 i)
def PlC (S : Mem) : Prop := (0 ≤ S 1 0 ∧ S 1 0 ≤ 4) ∧ (∀ l, S 9 l = 0 ∨ S 9 l = 1) ∧ vld (S 9) (S 1 0) (S 19) 8 ∧ (∀ i : Int, 0 ≤ i → i < 8 → 0 ≤ S 44 i ∧ S 44 i ≤ 1600) ∧ sm (S 44) 8 ≤ 1600 ∧ (0 ≤ S 6 8 ∧ S 6 8 ≤ 32) ∧ (0 ≤ S 6 9 ∧ S 6 9 ≤ 1600) ∧ (0 ≤ S 6 10 ∧ S 6 10 ≤ 1000) ∧ (∀ l, 0 ≤ S 7 l ∧ S 7 l ≤ 8)
abbrev Ev (S : Mem) : (Int → Int) → Prop := evn (S 6 8) (S 6 9) (S 6 10) (S 7) (S 9) (S 1 0) (S 44)
abbrev Mv (S : Mem) : (Int → Int) → Int := fun s => mvN (S 19) s 8
abbrev Qp (S : Mem) (t : Int → Int) (b : Nat) : (Int → Int) → Prop := Qb (S 9) (S 1 0) (S 44) (S 19) t b
def PI (S M : Mem) (b : Nat) (m : Int) : Prop := Pl S M ∧ vld (S 9) (S 1 0) (M 46) b ∧ (∀ l, 0 ≤ l → l < 4 → M 45 l = ldN (S 44) (M 46) l b) ∧ m = mvN (S 19) (M 46) b ∧ m < M 6 11 ∧ M 6 11 ≤ 9 ∧ (∀ l, 0 ≤ l → l < S 1 0 → S 9 l = 1 → wth (S 6 8) (S 6 9) (S 6 10) (S 7) l (ldN (S 44) (M 46) l b))
def PO (S M : Mem) (b : Nat) : PV → Mem → Prop := fun r M' => r = none ∧ Pl S M' ∧ M' 45 = M 45 ∧ (∀ j : Int, 0 ≤ j → j < b → M' 46 j = M 46 j) ∧ Imp (Ev S) (Qp S (M 46) b) (Mv S) (M 6 11) (M 6 0) (M 43) (M' 6 11) (M' 6 0) (M' 43)
theorem on_of {D : Nat} {M : Mem} {b l m : Int} {P : PV → Mem → Prop} (b0 : 0 ≤ b) (b8 : b < 8) (hp : gOk mX4_place D [vR 6, vI (b + 1), vI m] (mw M 46 b l) P) (hn : ∀ r M', P r M' → r = none) : gOk mX4_placeOn (D + 1) [vR 6, vI l, vI b, vI m] M P := by
  refine gOk_of mX4_placeOn_ok (by simp) (Nat.le_of_ble_eq_true rfl) ?_
  repeat (refine gV_s rfl (by first | exact trivial | omega) ?_)
  refine gV_cV hp mX4_place_ok sX4_X4_place rfl rfl rfl rfl rfl rfl ?_
  intro r M' h
  have := hn r M' h
  subst this
  exact gV_retv rfl trivial h
theorem place_end {d : Nat} {S M : Mem} {m : Int} (hI : PI S M 8 m) : gOk mX4_place (d + 2) [vR 6, vI (8 : Nat), vI m] M (PO S M 8) := by
  obtain ⟨⟨p1, p2⟩, v1, v2, v3, v4, v5, v6⟩ := hI
  refine gOk_of mX4_place_ok (by simp) (Nat.le_of_ble_eq_true rfl) ?_
  repeat (refine gV_s rfl (by first | exact trivial | omega) ?_)
  refine gV_in rfl (by unfold rng; omega) (by omega) ?_
  repeat (refine gV_s rfl (by first | exact trivial | omega) ?_)
  refine gV_cV (ok_keep (d := d) (M := M) (m := m) (P := fun r M' => r = none ∧ M' = mw (mcp (mw M 6 11 m) 46 43 8) 6 0 1) ⟨rfl, rfl⟩) mX4_keep_ok sX4_X4_keep rfl rfl rfl rfl rfl rfl ?_
  rintro r M' ⟨rfl, rfl⟩
  refine gV_retv rfl trivial ⟨rfl, ⟨fun r a1 a2 a3 a4 => ?_, fun i a1 a2 => ?_⟩, ?_, fun j _ _ => ?_, Or.inr ⟨?_, ?_, M 46, ⟨v1, fun j _ _ => rfl, fun j a b => by omega⟩, v6, ?_, fun j => ?_, fun s hs _ => Or.inr ⟨?_, ?_⟩⟩⟩
  · rw [mw_rn _ _ _ a1, mcp_o a2, mw_rn _ _ _ a1]; exact p1 r a1 a2 a3 a4
  · rw [mw_rs, up1_n _ _ a1, mcp_o (by decide), mw_rs, up1_n _ _ a2]; exact p2 i a1 a2
  · rw [mw_rn _ _ _ (by decide), mcp_o (by decide), mw_rn _ _ _ (by decide)]
  · rw [mw_rn _ _ _ (by decide), mcp_o (by decide), mw_rn _ _ _ (by decide)]
  · rw [mw_rs, up1_n _ _ (by decide), mcp_o (by decide), mw_rs, up1_s]; exact v4
  · rw [mw_rs, up1_s]
  · rw [mw_rs, up1_n _ _ (by decide), mcp_o (by decide), mw_rs, up1_s]; exact v3.symm
  · rw [mw_rn _ _ _ (by decide), mcp_s, mw_rn _ _ _ (by decide), mw_rn _ _ _ (by decide)]
  · rw [mw_rs, up1_n _ _ (by decide), mcp_o (by decide), mw_rs, up1_s, v3]
    exact (mvN_cong (fun b b0 b1 => hs.2.1 b b0 b1)).symm
  · exact Int.le_of_eq (rk_cong (fun b b0 b1 => (hs.2.1 b b0 b1).symm))
theorem mvN_up {on t : Int → Int} {b : Nat} {l : Int} : mvN on (up1 t b l) (b + 1) = mvN on t b + (if l = on b then 0 else 1) := by
  unfold mvN
  rw [ct_s, ct_cong (q := fun j => decide (t j ≠ on j)) (fun j a c => by rw [up1_n _ _ (by omega)]), up1_s]
  by_cases e : l = on b
  · rw [if_pos e, if_neg (by simp [e])]
  · rw [if_neg e, if_pos (by simp [e])]
theorem ldN_up {w t : Int → Int} {b : Nat} {l l' : Int} : ldN w (up1 t b l) l' (b + 1) = ldN w t l' b + (if l = l' then w b else 0) := by
  unfold ldN
  rw [sm_s, sm_cong (g := fun j => if t j = l' then w j else 0) (fun j a c => by rw [up1_n _ _ (by omega)]), up1_s]
theorem place_all {S : Mem} (hC : PlC S) : ∀ (n b : Nat), b + n = 8 → ∀ (d : Nat) (M : Mem) (m : Int), PI S M b m → gOk mX4_place (d + (2 * n + 2)) [vR 6, vI b, vI m] M (PO S M b) := by
  obtain ⟨cL, cu, con, cw, cW, cA, cB, ck, cs⟩ := hC
  have cw0 : ∀ i : Int, 0 ≤ i → i < 8 → 0 ≤ S 44 i := fun i a b => (cw i a b).1
  intro n
  induction n with
  | zero =>
    intro b hb d M m hI
    have e : b = 8 := by omega
    subst e
    exact place_end hI
  | succ n ih =>
    intro b hb d M m hI
    rw [show d + (2 * (n + 1) + 2) = d + (2 * n + 2) + 1 + 1 by omega]
    obtain ⟨⟨p1, p2⟩, v1, v2, v3, v4, v5, v6⟩ := id hI
    obtain ⟨f0, fL, fu⟩ := con b (by omega) (by omega)
    have e19 : M 19 b = S 19 b := by rw [p1 19 (by decide) (by decide) (by decide) (by decide)]
    have e9 : M 9 (S 19 b) = S 9 (S 19 b) := by rw [p1 9 (by decide) (by decide) (by decide) (by decide)]
    have e44 : M 44 b = S 44 b := by rw [p1 44 (by decide) (by decide) (by decide) (by decide)]
    have hwb := cw b (by omega) (by omega)
    have m0 : 0 ≤ m := by rw [v3]; exact ct_nn _ _ |>.1
    refine gOk_of mX4_place_ok (by simp) (Nat.le_of_ble_eq_true rfl) ?_
    repeat (refine gV_s rfl (by first | exact trivial | omega) ?_)
    refine gV_it rfl (by unfold rng; omega) (by omega) ?_
    repeat (refine gV_s rfl (by first | exact trivial | omega) ?_)
    rw [e19]
    refine gV_in rfl (by unfold rng; omega) (by omega) ?_
    repeat (refine gV_s rfl (by first | exact trivial | omega) ?_)
    rw [e9, fu]
    refine gV_in rfl (by unfold rng; omega) (by omega) ?_
    repeat (refine gV_s rfl (by first | exact trivial | omega) ?_)
    rw [e44]
    refine gV_i rfl (by unfold rng; omega) (fun hw0 => ?_) (fun hw0 => ?_)
    · have hI2 : PI S (mw M 46 b (S 19 b)) (b + 1) m := by
        refine ⟨⟨fun r a1 a2 a3 a4 => by rw [mw_rn _ _ _ a4]; exact p1 r a1 a2 a3 a4, fun i a1 a2 => by rw [mw_rn _ _ _ (by decide)]; exact p2 i a1 a2⟩, ?_, ?_, ?_, ?_, ?_, ?_⟩
        · rw [mw_rs]
          intro j j0 j1
          rw [up1_e]
          split
          · exact ⟨f0, fL, fu⟩
          · exact v1 j j0 (by push_cast at j1; omega)
        · intro l l0 l4
          rw [mw_rs, mw_rn _ _ _ (by decide), ldN_up, v2 l l0 l4, hw0]
          split <;> omega
        · rw [mw_rs, mvN_up, if_pos rfl, v3]; omega
        · rw [mw_rn _ _ _ (by decide)]; exact v4
        · rw [mw_rn _ _ _ (by decide)]; exact v5
        · intro l l0 lL hu
          rw [mw_rs, ldN_up, hw0]
          have := v6 l l0 lL hu
          split
          · rw [Int.add_zero]; exact this
          · rw [Int.add_zero]; exact this
      have hp := ih (b + 1) (by omega) d (mw M 46 b (S 19 b)) m hI2
      rw [show (((b + 1 : Nat) : Int)) = (b : Int) + 1 by push_cast; rfl] at hp
      repeat (refine gV_s rfl (by first | exact trivial | omega) ?_)
      refine gV_cV (on_of (b := (b : Int)) (l := S 19 b) (m := m) (by omega) (by omega) hp (fun r M' h => h.1)) mX4_placeOn_ok sX4_X4_placeOn rfl rfl rfl rfl rfl rfl ?_
      rintro r M' ⟨rfl, o1, o2, o3, o4⟩
      refine gV_retv rfl trivial ⟨rfl, o1, ?_, fun j j0 j1 => ?_, ?_⟩
      · rw [o2, mw_rn _ _ _ (by decide)]
      · rw [o3 j j0 (by push_cast; omega), mw_rs, up1_n _ _ (by omega)]
      · rw [mw_rs, mw_rn _ _ _ (show (6 : Nat) ≠ 46 by decide), mw_rn _ _ _ (show (43 : Nat) ≠ 46 by decide)] at o4
        refine Imp_iff (fun s => ?_) o4
        constructor
        · rintro ⟨a1, a2, a3⟩
          refine ⟨a1, fun j j0 j1 => ?_, fun j j0 j1 hw => ?_⟩
          · rw [a2 j j0 (by push_cast; omega), up1_n _ _ (by omega)]
          · by_cases e : j = b
            · subst e
              rw [a2 b (by omega) (by push_cast; omega), up1_s]
            · exact a3 j (by push_cast; omega) j1 hw
        · rintro ⟨a1, a2, a3⟩
          refine ⟨a1, fun j j0 j1 => ?_, fun j j0 j1 hw => a3 j (by push_cast at j0; omega) j1 hw⟩
          rw [up1_e]
          split
          · rename_i e; rw [e]; exact a3 b (by omega) (by omega) hw0
          · exact a2 j j0 (by push_cast at j1; omega)
    · have loop : ∀ (q l : Nat) (M' : Mem) (z : PV), (l : Int) + q = S 1 0 → Pl S M' → M' 45 = M 45 → (∀ j : Int, 0 ≤ j → j < b → M' 46 j = M 46 j) → Imp (Ev S) (fun s => Qp S (M 46) b s ∧ s b < l) (Mv S) (M 6 11) (M 6 0) (M 43) (M' 6 11) (M' 6 0) (M' 43) →
          gV mX4_place (d + (2 * n + 2) + 1 + 1) (PO S M b) 69 [vR 6, vI b, vI m, vI (S 19 b), vI l, z] [vI (S 1 0), vI l] M' := by
        intro q
        induction q with
        | zero =>
          intro l M' z hl hP h45 h46 hImp
          refine gV_it rfl (by unfold rng; omega) (by omega) ?_
          refine gV_retv rfl trivial ⟨rfl, hP, h45, h46, Imp_iff (fun s => ⟨fun a => a.1, fun a => ⟨a, ?_⟩⟩) hImp⟩
          have := a.1 b (by omega) (by omega)
          omega
        | succ q ihq =>
          intro l M' z hl hP h45 h46 hImp
          obtain ⟨q1, q2⟩ := id hP
          have g1 : M' 1 0 = S 1 0 := by rw [q1 1 (by decide) (by decide) (by decide) (by decide)]
          have g9 : M' 9 l = S 9 l := by rw [q1 9 (by decide) (by decide) (by decide) (by decide)]
          have g44 : M' 44 b = S 44 b := by rw [q1 44 (by decide) (by decide) (by decide) (by decide)]
          have hF9 : M' 6 11 ≤ 9 := by have := Imp_le hImp; omega
          have hul := cu l
          have adv : ∀ (M2 : Mem) (z : PV), Pl S M2 → M2 45 = M 45 → (∀ j : Int, 0 ≤ j → j < b → M2 46 j = M 46 j) → Imp (Ev S) (fun s => Qp S (M 46) b s ∧ s b = l) (Mv S) (M' 6 11) (M' 6 0) (M' 43) (M2 6 11) (M2 6 0) (M2 43) → gV mX4_place (d + (2 * n + 2) + 1 + 1) (PO S M b) 169 [vR 6, vI b, vI m, vI (S 19 b), vI l, z] [] M2 := by
            intro M2 z hP2 h452 h462 hI2
            have := Imp_tr hImp hI2 (fun s1 s2 a1 a2 => by
              have e : rk s1 b = rk s2 b := rk_cong (fun j j0 j1 => by rw [a1.1.2.1 j j0 j1, a2.1.2.1 j j0 j1])
              have lt : rk s1 (b + 1) < rk s2 (b + 1) := by
                simp only [rk]
                have h1 := a1.2
                have h2 := a2.2
                omega
              have := rk_lt (vld_dig cL.2 a1.1.1) (vld_dig cL.2 a2.1.1) lt n (by omega)
              rw [show b + 1 + n = 8 by omega] at this
              omega)
            have e1 : M2 1 0 = S 1 0 := by rw [hP2.1 1 (by decide) (by decide) (by decide) (by decide)]
            repeat (refine gV_s rfl (by first | exact trivial | omega) ?_)
            rw [e1]
            refine ihq (l + 1) M2 z (by push_cast; omega) hP2 h452 h462 (Imp_iff (fun s => ?_) this)
            constructor
            · rintro (a | a)
              · exact ⟨a.1, by have := a.2; push_cast; omega⟩
              · exact ⟨a.1, by have := a.2; push_cast; omega⟩
            · rintro ⟨a1, a2⟩
              push_cast at a2
              by_cases e : s b = l
              · exact Or.inr ⟨a1, e⟩
              · exact Or.inl ⟨a1, by omega⟩
          have skip : ∀ z : PV, (∀ s, (Qp S (M 46) b s ∧ s b = l) → Ev S s → M' 6 11 ≤ Mv S s) → gV mX4_place (d + (2 * n + 2) + 1 + 1) (PO S M b) 169 [vR 6, vI b, vI m, vI (S 19 b), vI l, z] [] M' := fun z hno => adv M' z hP h45 h46 (Imp_no hno)
          have body : ∀ v : Int, v = m + (if (l : Int) = S 19 b then 0 else 1) → gV mX4_place (d + (2 * n + 2) + 1 + 1) (PO S M b) 85 [vR 6, vI b, vI m, vI (S 19 b), vI l, z] [vI v] M' := by
            intro v hv
            have v0 : 0 ≤ v ∧ v ≤ m + 1 := by rw [hv]; split <;> omega
            have emv : ∀ s, (Qp S (M 46) b s ∧ s b = l) → v ≤ Mv S s := fun s hs => by
              have := mvN_mono (on := S 19) (t := s) (b := b + 1) n
              rw [show b + 1 + n = 8 by omega, mvN_cong (t := up1 (M 46) b l) (fun j j0 j1 => by
                rw [up1_e]
                split
                · rename_i e; rw [e]; exact hs.2
                · exact hs.1.2.1 j j0 (by push_cast at j1; omega)), mvN_up, ← v3] at this
              show v ≤ mvN (S 19) s 8
              omega
            repeat (refine gV_s rfl (by first | exact trivial | omega) ?_)
            rw [g9]
            refine gV_i rfl (by unfold rng; omega) (fun h1 => ?_) (fun h1 => ?_)
            · refine skip _ (fun s hs _ => ?_)
              have := hs.1.1 b (by omega) (by omega)
              rw [hs.2] at this
              omega
            · have hu1 : S 9 l = 1 := by omega
              have hF0 : -1 ≤ M' 6 11 := by
                rcases hImp with a | ⟨a1, a2, t, a3, a4, a5, a6, a7⟩
                · have := a.1; omega
                · have := (ct_nn (fun j => decide (t j ≠ S 19 j)) 8).1
                  have a5' : ct (fun j => decide (t j ≠ S 19 j)) 8 = M' 6 11 := a5
                  omega
              repeat (refine gV_s rfl (by first | exact trivial | omega) ?_)
              refine gV_i rfl (by unfold rng; omega) (fun h2 => ?_) (fun h2 => ?_)
              · have hl4 : (l : Int) < 4 := by omega
                have x45 : M' 45 l = ldN (S 44) (M 46) l b := by rw [h45, v2 l (by omega) hl4]
                have hld := ldN_le (t := M 46) (l := l) cw0 b (by omega)
                have hsm := sm_mono cw0 (b := b) (n + 1) (by omega)
                rw [show b + (n + 1) = 8 by omega] at hsm
                have hX : M' 45 l + M' 44 b = ldN (S 44) (up1 (M' 46) b l) l (b + 1) := by
                  rw [ldN_up, if_pos rfl, x45, g44, ldN_cong (s := M 46) (t := M' 46) (fun j j0 j1 => (h46 j j0 j1).symm)]
                have hXs : ∀ s, (Qp S (M 46) b s ∧ s b = l) → M' 45 l + M' 44 b ≤ ldN (S 44) s l 8 := fun s hs => by
                  have := ldN_mono (t := s) (l := l) cw0 (b := b + 1) n (by omega)
                  rw [show b + 1 + n = 8 by omega, ldN_cong (t := up1 (M' 46) b l) (fun j j0 j1 => by
                    rw [up1_e]
                    split
                    · rename_i e; rw [e]; exact hs.2
                    · rw [hs.1.2.1 j j0 (by push_cast at j1; omega), h46 j j0 (by push_cast at j1; omega)]), ← hX] at this
                  exact this
                have em : ∀ r, r ≠ 45 → mw M' 45 l (M' 45 l + M' 44 b) r = M' r := fun r hr => mw_rn _ _ _ hr
                have back : ∀ (M3 : Mem) (z : PV), Pl S M3 → M3 45 = up1 (M' 45) l (M' 45 l + M' 44 b) → (∀ j : Int, 0 ≤ j → j < b → M3 46 j = M 46 j) → Imp (Ev S) (fun s => Qp S (M 46) b s ∧ s b = l) (Mv S) (M' 6 11) (M' 6 0) (M' 43) (M3 6 11) (M3 6 0) (M3 43) → gV mX4_place (d + (2 * n + 2) + 1 + 1) (PO S M b) 153 [vR 6, vI b, vI m, vI (S 19 b), vI l, z] [] M3 := by
                  intro M3 z hP3 h453 h463 hI3
                  iterate 11 (refine gV_s rfl (by first | exact trivial | omega) ?_)
                  refine adv (mw M3 45 l (M3 45 l - M3 44 b)) _ ⟨fun r a1 a2 a3 a4 => by rw [mw_rn _ _ _ a3]; exact hP3.1 r a1 a2 a3 a4, fun i a1 a2 => by rw [mw_rn _ _ _ (by decide)]; exact hP3.2 i a1 a2⟩ ?_ (fun j j0 j1 => by rw [mw_rn _ _ _ (by decide)]; exact h463 j j0 j1) (by rw [mw_rn _ _ _ (by decide), mw_rn _ _ _ (by decide)]; exact hI3)
                  have e44' : M3 44 b = S 44 b := by rw [hP3.1 44 (by decide) (by decide) (by decide) (by decide)]
                  rw [mw_rs, h453, up1_up1, up1_s, e44', g44, show M' 45 l + S 44 b - S 44 b = M' 45 l by omega, up1_id, h45]
                have hw8 := ok_within (d := d + (2 * n + 2) + 1) (M := mw M' 45 l (M' 45 l + M' 44 b)) (l := l) (x := M' 45 l + M' 44 b) (by omega) hl4 (by omega) (by rw [em 6 (by decide), q2 8 (by decide) (by decide)]; exact cA) (by rw [em 6 (by decide), q2 9 (by decide) (by decide)]; exact cB) (by rw [em 6 (by decide), q2 10 (by decide) (by decide)]; exact ck) (by rw [em 7 (by decide), q1 7 (by decide) (by decide) (by decide) (by decide)]; exact cs l)
                rw [em 6 (by decide), q2 8 (by decide) (by decide), q2 9 (by decide) (by decide), q2 10 (by decide) (by decide), em 7 (by decide), q1 7 (by decide) (by decide) (by decide) (by decide)] at hw8
                repeat (refine gV_s rfl (by first | exact trivial | omega) ?_)
                rw [show mw M' 45 l (M' 45 l + M' 44 b) 45 l = M' 45 l + M' 44 b by rw [mw_rs, up1_s]]
                refine gV_cV hw8 mX4_isWithinShare_ok sX4_X4_isWithinShare rfl rfl rfl rfl rfl rfl ?_
                rintro r M1 ⟨rfl, ⟨h3, rfl⟩ | ⟨h3, rfl⟩⟩
                · refine gV_in rfl (by unfold rng; omega) (by omega) ?_
                  have hI2 : PI S (mw (mw M' 45 l (M' 45 l + M' 44 b)) 46 b l) (b + 1) v := by
                    refine ⟨⟨fun r a1 a2 a3 a4 => by rw [mw_rn _ _ _ a4, mw_rn _ _ _ a3]; exact q1 r a1 a2 a3 a4, fun i a1 a2 => by rw [mw_rn _ _ _ (by decide), mw_rn _ _ _ (by decide)]; exact q2 i a1 a2⟩, ?_, ?_, ?_, ?_, ?_, ?_⟩
                    · rw [mw_rs, mw_rn _ _ _ (by decide)]
                      intro j j0 j1
                      rw [up1_e]
                      split
                      · exact ⟨by omega, by omega, hu1⟩
                      · rw [h46 j j0 (by push_cast at j1; omega)]
                        exact v1 j j0 (by push_cast at j1; omega)
                    · intro l' l0 l4'
                      rw [mw_rs, mw_rn _ _ _ (by decide), mw_rs, mw_rn _ _ _ (by decide), up1_e]
                      split
                      · rename_i e; rw [e]; exact hX
                      · rename_i e
                        rw [ldN_up, if_neg (fun q => e q.symm), h45, v2 l' l0 l4', ldN_cong (s := M 46) (t := M' 46) (fun j j0 j1 => (h46 j j0 j1).symm)]
                        omega
                    · rw [mw_rs, mw_rn _ _ _ (by decide), mvN_up, mvN_cong (s := M' 46) (t := M 46) (fun j j0 j1 => h46 j j0 j1), ← v3]
                      exact hv
                    · rw [mw_rn _ _ _ (by decide), mw_rn _ _ _ (by decide)]; exact h2
                    · rw [mw_rn _ _ _ (by decide), mw_rn _ _ _ (by decide)]; exact hF9
                    · intro l' l0 lL hu'
                      rw [mw_rs, mw_rn _ _ _ (by decide)]
                      by_cases e : l' = l
                      · rw [e, ← hX]; exact h3
                      · rw [ldN_up, if_neg (fun q => e q.symm), ldN_cong (s := M' 46) (t := M 46) (fun j j0 j1 => h46 j j0 j1), Int.add_zero]
                        exact v6 l' l0 lL hu'
                  have hp := ih (b + 1) (by omega) d (mw (mw M' 45 l (M' 45 l + M' 44 b)) 46 b l) v hI2
                  rw [show (((b + 1 : Nat) : Int)) = (b : Int) + 1 by push_cast; rfl] at hp
                  repeat (refine gV_s rfl (by first | exact trivial | omega) ?_)
                  refine gV_cV (on_of (b := (b : Int)) (l := l) (m := v) (by omega) (by omega) hp (fun r M' h => h.1)) mX4_placeOn_ok sX4_X4_placeOn rfl rfl rfl rfl rfl rfl ?_
                  rintro r M3 ⟨rfl, o1, o2, o3, o4⟩
                  refine back M3 _ o1 ?_ (fun j j0 j1 => ?_) ?_
                  · rw [o2, mw_rn _ _ _ (by decide), mw_rs]
                  · rw [o3 j j0 (by push_cast; omega), mw_rs, up1_n _ _ (by omega), mw_rn _ _ _ (by decide), h46 j j0 j1]
                  · rw [mw_rs, mw_rn _ _ _ (show (46 : Nat) ≠ 45 by decide), mw_rn _ _ _ (show (6 : Nat) ≠ 46 by decide), mw_rn _ _ _ (show (6 : Nat) ≠ 45 by decide), mw_rn _ _ _ (show (43 : Nat) ≠ 46 by decide), mw_rn _ _ _ (show (43 : Nat) ≠ 45 by decide)] at o4
                    refine Imp_iff (fun s => ?_) o4
                    constructor
                    · rintro ⟨a1, a2, a3⟩
                      refine ⟨⟨a1, fun j j0 j1 => ?_, fun j j0 j1 hw => ?_⟩, ?_⟩
                      · rw [a2 j j0 (by push_cast; omega), up1_n _ _ (by omega), h46 j j0 j1]
                      · by_cases e : j = b
                        · subst e; exact absurd hw hw0
                        · exact a3 j (by push_cast; omega) j1 hw
                      · rw [a2 b (by omega) (by push_cast; omega), up1_s]
                    · rintro ⟨⟨a1, a2, a3⟩, a4⟩
                      refine ⟨a1, fun j j0 j1 => ?_, fun j j0 j1 hw => a3 j (by push_cast at j0; omega) j1 hw⟩
                      rw [up1_e]
                      split
                      · rename_i e; rw [e]; exact a4
                      · rw [a2 j j0 (by push_cast at j1; omega), h46 j j0 (by push_cast at j1; omega)]
                · refine gV_it rfl (by unfold rng; omega) rfl ?_
                  refine back (mw M' 45 l (M' 45 l + M' 44 b)) _ ⟨fun r a1 a2 a3 a4 => by rw [mw_rn _ _ _ a3]; exact q1 r a1 a2 a3 a4, fun i a1 a2 => by rw [mw_rn _ _ _ (by decide)]; exact q2 i a1 a2⟩ (by rw [mw_rs]) (fun j j0 j1 => by rw [mw_rn _ _ _ (by decide)]; exact h46 j j0 j1) ?_
                  rw [mw_rn _ _ _ (by decide), mw_rn _ _ _ (by decide)]
                  refine Imp_no (fun s hs he => absurd ?_ h3)
                  exact wth_mono cA.1 (hXs s hs) (he l (by omega) (by omega) hu1)
              · refine gV_s rfl trivial ?_
                exact skip _ (fun s hs _ => by have := emv s hs; omega)
          refine gV_in rfl (by unfold rng; omega) (by omega) ?_
          repeat (refine gV_s rfl (by first | exact trivial | omega) ?_)
          refine gV_i rfl (by unfold rng; omega) (fun h1 => ?_) (fun h1 => ?_)
          · refine gV_s rfl trivial (gV_s rfl trivial ?_)
            exact body m (by rw [if_pos h1]; omega)
          · refine gV_s rfl trivial (gV_s rfl trivial (gV_s rfl trivial ?_))
            exact body (m + 1) (by rw [if_neg h1])
      repeat (refine gV_s rfl (by first | exact trivial | omega) ?_)
      rw [show M 1 0 = S 1 0 by rw [p1 1 (by decide) (by decide) (by decide) (by decide)]]
      refine loop (S 1 0).toNat 0 M none (by omega) ⟨p1, p2⟩ rfl (fun j _ _ => rfl) (Imp_no (fun s hs _ => ?_))
      have := hs.1.1 b (by omega) (by omega)
      have := hs.2
      omega
end
section
/-! The class: even, least. -/
theorem Imp_E {E E' Q : (Int → Int) → Prop} {mv : (Int → Int) → Int} {F h F1 h1 : Int} {pl pl1 : Int → Int} (he : ∀ s, E s ↔ E' s) (a : Imp E Q mv F h pl F1 h1 pl1) : Imp E' Q mv F h pl F1 h1 pl1 := by
  rcases a with ⟨a1, a2, a3, a4⟩ | ⟨a1, a2, t, a3, a4, a5, a6, a7⟩
  · exact Or.inl ⟨a1, a2, a3, fun s hs hE => a4 s hs ((he s).mpr hE)⟩
  · exact Or.inr ⟨a1, a2, t, a3, (he t).mp a4, a5, a6, fun s hs hE => a7 s hs ((he s).mpr hE)⟩
theorem ldN_congw {w w' t : Int → Int} {l : Int} {n : Nat} (h : ∀ b : Int, 0 ≤ b → b < n → w b = w' b) : ldN w t l n = ldN w' t l n := sm_cong (fun j a b => by rw [h j a b])
def anyUp (S : Mem) : Prop := ∃ l, 0 ≤ l ∧ l < S 1 0 ∧ S 9 l = 1
def sA (S : Mem) : Int := sm (upSp S) (S 1 0).toNat
def sW (S : Mem) : Int := sm (rates S) 8
def Ev0 (S : Mem) (k : Int) : (Int → Int) → Prop := evn (sA S) (sW S) k (S 7) (S 9) (S 1 0) (rates S)
theorem load_ldN {S : Mem} {lo : Int → Int} {x : Int} (h : AI S lo x) (l : Int) : load S l = ldN (rates S) (S 19) l 8 := (load_eq h l).symm
theorem on_vld {S : Mem} {lo : Int → Int} (h : AI S lo (-1)) (hu : anyUp S) : vld (S 9) (S 1 0) (S 19) 8 := by
  obtain ⟨l, l0, l1, l2⟩ := hu
  intro b b0 b8
  have hon := h.2.2.2.1 (by decide) ⟨l, l2⟩ b b0 b8
  rcases (h.2.2.1 b).1 with q | ⟨q1, q2, q3 | q3⟩
  · exact absurd q hon
  · exact ⟨q1, q2, q3⟩
  · omega
theorem rates_bd {S : Mem} {lo : Int → Int} {x : Int} (h : AI S lo x) (b : Int) : 0 ≤ rates S b ∧ rates S b ≤ 1600 := by
  have hF := h.1.2.1
  have := sm_bd (g := rtB S b) (c := 100) (n := (S 3 0).toNat) (fun i a c => by
    have := h.2.2.2.2.2.1 i
    unfold rtB
    split <;> omega)
  unfold rates
  omega
theorem sW_bd {S : Mem} {lo : Int → Int} {x : Int} (h : AI S lo x) : 0 ≤ sW S ∧ sW S ≤ 1600 := by
  have hF := h.1.2.1
  have h1 := sm_bd (g := S 24) (c := 100) (n := (S 3 0).toNat) (fun i a c => by
    have := h.2.2.2.2.2.1 i
    omega)
  have h2 := ld_all (up := fun _ => 1) (w := S 24) (t := bkO S) (L := 8) (S 3 0).toNat (fun b b0 b1 => by
    have := bkO_in h b0 (by omega)
    exact ⟨this.1, by omega, rfl⟩)
  have e : sW S = sm (S 24) (S 3 0).toNat := by
    rw [← h2]
    unfold sW
    exact sm_cong (fun j _ _ => by rw [if_pos rfl]; rfl)
  omega
theorem sA_bd {S : Mem} {lo : Int → Int} {x : Int} (h : AI S lo x) : 0 ≤ sA S ∧ sA S ≤ 32 := by
  have hL := h.1.1
  have h1 := sm_bd (g := upSp S) (c := 8) (n := (S 1 0).toNat) (fun i a c => by
    have := h.2.1.2.2 i
    unfold upSp
    split <;> omega)
  unfold sA
  omega
theorem upLd_all {S : Mem} {lo : Int → Int} (h : AI S lo (-1)) (hu : anyUp S) : sm (upLd S) (S 1 0).toNat = sW S := by
  have hL := h.1.1
  have := ld_all (up := S 9) (w := rates S) (t := S 19) (L := (S 1 0).toNat) 8 (fun b b0 b1 => by
    have := on_vld h hu b b0 (by omega)
    exact ⟨this.1, by omega, this.2.2⟩)
  unfold sW
  rw [← this]
  exact sm_cong (fun j _ _ => by unfold upLd; rw [load_ldN h])
/-- answers of even -/
def evA (S : Mem) (k v : Int) : Prop := (¬ (0 ≤ k ∧ k ≤ 1000) ∧ v = -2) ∨ ((0 ≤ k ∧ k ≤ 1000) ∧ ¬ anyUp S ∧ v = -3) ∨ ((0 ≤ k ∧ k ≤ 1000) ∧ anyUp S ∧ ((Ev0 S k (S 19) ∧ v = 1) ∨ (¬ Ev0 S k (S 19) ∧ v = 0)))
theorem evA_fun {S : Mem} {k v v' : Int} (h : evA S k v) (h' : evA S k v') : v = v' := by
  rcases h with ⟨a, b⟩ | ⟨a, b, c⟩ | ⟨a, b, ⟨c, e⟩ | ⟨c, e⟩⟩ <;> rcases h' with ⟨a', b'⟩ | ⟨a', b', c'⟩ | ⟨a', b', ⟨c', e'⟩ | ⟨c', e'⟩⟩ <;> first | omega | exact absurd a' a | exact absurd a a' | exact absurd b' b | exact absurd b b' | exact absurd c c' | exact absurd c' c
/-- what a look at evenness leaves -/
def evM (S M' : Mem) : Prop := (∀ r, r ≠ 6 → M' r = S r) ∧ M' 6 0 = S 6 0
theorem evC_loop {d : Nat} {S M : Mem} {k : Int} (h : NI S) (hu : anyUp S) (hk : 0 ≤ k ∧ k ≤ 1000) (hM : MsP S M k (S 1 0).toNat) : ∀ (n j : Nat), (j : Int) + n = S 1 0 → (∀ l : Int, 0 ≤ l → l < j → S 9 l = 1 → wth (sA S) (sW S) k (S 7) l (ldN (rates S) (S 19) l 8)) →
    gV mX4_isEven (d + 2) (fun r M' => M' = M ∧ ((Ev0 S k (S 19) ∧ r = vI 1) ∨ (¬ Ev0 S k (S 19) ∧ r = vI 0))) 15 [vR 6, vI k, vI j] [vI (S 1 0), vI j] M
  | 0, j, hj, hn => by
    have hL := h.1.1
    refine gV_it rfl (by unfold rng; omega) (by omega) ?_
    repeat (refine gV_s rfl (by first | exact trivial | omega) ?_)
    exact gV_ret rfl (Or.inr rfl) ⟨rfl, Or.inl ⟨fun l l0 lL hu => hn l l0 (by omega) hu, rfl⟩⟩
  | n + 1, j, hj, hn => by
    have hL := h.1.1
    obtain ⟨m1, m2, m3, m4, m5⟩ := id hM
    rw [upLd_all h hu] at m3
    have hul := h.2.1.2.1 j
    have e9 : M 9 j = S 9 j := by rw [m1 9 (by decide)]
    have e1 : M 1 0 = S 1 0 := by rw [m1 1 (by decide)]
    have hw := sW_bd h
    have hA := sA_bd h
    have nxt : (S 9 j = 1 → wth (sA S) (sW S) k (S 7) j (ldN (rates S) (S 19) j 8)) → gV mX4_isEven (d + 2) (fun r M' => M' = M ∧ ((Ev0 S k (S 19) ∧ r = vI 1) ∨ (¬ Ev0 S k (S 19) ∧ r = vI 0))) 45 [vR 6, vI k, vI j] [] M := by
      intro hq
      repeat (refine gV_s rfl (by first | exact trivial | omega) ?_)
      rw [e1]
      refine evC_loop h hu hk hM n (j + 1) (by push_cast; omega) (fun l l0 l1 hul => ?_)
      by_cases e : l = j
      · subst e; exact hq hul
      · exact hn l l0 (by push_cast at l1; omega) hul
    refine gV_in rfl (by unfold rng; omega) (by omega) ?_
    repeat (refine gV_s rfl (by first | exact trivial | omega) ?_)
    rw [e9]
    refine gV_i rfl (by unfold rng; omega) (fun h1 => nxt (fun q => by omega)) (fun h1 => ?_)
    have hA2 : AI M (fun _ => S 5 0) (-1) := AI_pl h (fun r a b => m1 r a) (by rw [m5 0 (by decide) (by decide) (by decide)]; exact h.1.2.2.2.2.2.2.2)
    have eld : load M j = ldN (rates S) (S 19) j 8 := by rw [load_cong (m1 3 (by decide)) (m1 19 (by decide)) (m1 24 (by decide)) (m1 25 (by decide)), load_ldN h]
    have hld := ldN_le (w := rates S) (t := S 19) (l := j) (fun i _ _ => (rates_bd h i).1) 8 (by omega)
    have hld2 : ldN (rates S) (S 19) j 8 ≤ sW S := hld.2
    repeat (refine gV_s rfl (by first | exact trivial | omega) ?_)
    refine gV_cV (ok_loadOf (d := d) (M := M) (l := j) (P := fun r M' => r = vI (ldN (rates S) (S 19) j 8) ∧ M' = M) hA2 (by unfold rng; omega) ⟨by rw [eld], rfl⟩) mX4_loadOf_ok sX4_X4_loadOf rfl rfl rfl rfl rfl rfl ?_
    rintro r M' ⟨rfl, rfl⟩
    have m2' : M' 6 8 = sA S := m2
    have hw8 := ok_within (d := d + 1) (M := M') (l := j) (x := ldN (rates S) (S 19) j 8) (by omega) (by omega) (by omega) (by rw [m2']; exact hA) (by rw [m3]; exact hw) (by rw [m4]; exact hk) (by rw [m1 7 (by decide)]; have := h.2.1.2.2 j; omega)
    rw [m2', m3, m4, m1 7 (by decide)] at hw8
    refine gV_cV hw8 mX4_isWithinShare_ok sX4_X4_isWithinShare rfl rfl rfl rfl rfl rfl ?_
    rintro r M2 ⟨rfl, ⟨h3, rfl⟩ | ⟨h3, rfl⟩⟩
    · refine gV_in rfl (by unfold rng; omega) (by omega) ?_
      exact nxt (fun _ => h3)
    · refine gV_it rfl (by unfold rng; omega) rfl ?_
      repeat (refine gV_s rfl (by first | exact trivial | omega) ?_)
      exact gV_ret rfl (Or.inl rfl) ⟨rfl, Or.inr ⟨fun q => h3 (q j (by omega) (by omega) (by omega)), rfl⟩⟩
theorem ok_evenC {d : Nat} {S : Mem} {k : Int} (h : NI S) (hu : anyUp S) (hk : 0 ≤ k ∧ k ≤ 1000) : gOk mX4_isEven (d + 3) [vR 6, vI k] S (fun r M' => evM S M' ∧ ((Ev0 S k (S 19) ∧ r = vI 1) ∨ (¬ Ev0 S k (S 19) ∧ r = vI 0))) := by
  have hL := h.1.1
  refine gOk_of mX4_isEven_ok (by simp) (Nat.le_of_ble_eq_true rfl) ?_
  repeat (refine gV_s rfl (by first | exact trivial | omega) ?_)
  refine gV_cV (ok_measure (d := d) (k := k) (P := fun r M' => r = none ∧ MsP S M' k (S 1 0).toNat) h (fun M' a => ⟨rfl, a⟩)) mX4_measure_ok sX4_X4_measure rfl rfl rfl rfl rfl rfl ?_
  rintro r M' ⟨rfl, hM⟩
  have e1 : M' 1 0 = S 1 0 := by rw [hM.1 1 (by decide)]
  repeat (refine gV_s rfl (by first | exact trivial | omega) ?_)
  rw [e1]
  have := evC_loop (d := d + 1) h hu hk hM (S 1 0).toNat 0 (by omega) (fun l a b => by omega)
  refine gV_mono this ?_
  rintro r M2 ⟨rfl, hr⟩
  exact ⟨⟨hM.1, hM.2.2.2.2 0 (by decide) (by decide) (by decide)⟩, hr⟩
theorem ok_cEven {d : Nat} {S : Mem} {k : Int} (h : NI S) (hk : rng k) : gOk mX6_even (d + 4) [vR 0, vI k] S (fun r M' => evM S M' ∧ ∃ v, r = vI v ∧ evA S k v) := by
  refine gOk_of mX6_even_ok (by simp) (Nat.le_of_ble_eq_true rfl) ?_
  repeat (refine gV_s rfl (by first | exact trivial | omega) ?_)
  refine gV_cS (ok_isWithin (d := d + 3) (M := S) hk (by unfold rng; omega) (by unfold rng; omega)) mX6_isWithin_ok sX6_X6_isWithin rfl rfl rfl rfl ?_
  rintro r M' ⟨rfl, ⟨h1, rfl⟩ | ⟨h1, rfl⟩⟩
  · refine gV_in rfl (by unfold rng; omega) (by omega) ?_
    repeat (refine gV_s rfl (by first | exact trivial | omega) ?_)
    refine gV_cV (ok_anyUp (d := d + 3) (M := M') h) mX3_isAnyUp_ok sX6_X3_isAnyUp rfl rfl rfl rfl rfl rfl ?_
    rintro r M2 ⟨rfl, ⟨h2, rfl⟩ | ⟨h2, rfl⟩⟩
    · refine gV_in rfl (by unfold rng; omega) (by omega) ?_
      repeat (refine gV_s rfl (by first | exact trivial | omega) ?_)
      refine gV_cV (ok_evenC (d := d) h h2 h1) mX4_isEven_ok sX6_X4_isEven rfl rfl rfl rfl rfl rfl ?_
      rintro r M3 ⟨he, ⟨h3, rfl⟩ | ⟨h3, rfl⟩⟩
      · refine gV_cS (ok_oneIf (d := d + 3) (P := fun r M'' => r = vI 1 ∧ M'' = M3) (Or.inr rfl) ⟨rfl, rfl⟩) mX6_oneIf_ok sX6_X6_oneIf rfl rfl rfl rfl ?_
        rintro r M4 ⟨rfl, rfl⟩
        exact gV_ret rfl trivial ⟨he, 1, rfl, Or.inr (Or.inr ⟨h1, h2, Or.inl ⟨h3, rfl⟩⟩)⟩
      · refine gV_cS (ok_oneIf (d := d + 3) (P := fun r M'' => r = vI 0 ∧ M'' = M3) (Or.inl rfl) ⟨rfl, rfl⟩) mX6_oneIf_ok sX6_X6_oneIf rfl rfl rfl rfl ?_
        rintro r M4 ⟨rfl, rfl⟩
        exact gV_ret rfl trivial ⟨he, 0, rfl, Or.inr (Or.inr ⟨h1, h2, Or.inr ⟨h3, rfl⟩⟩)⟩
    · refine gV_it rfl (by unfold rng; omega) rfl ?_
      repeat (refine gV_s rfl (by first | exact trivial | omega) ?_)
      exact gV_ret rfl trivial ⟨⟨fun _ _ => rfl, rfl⟩, -3, rfl, Or.inr (Or.inl ⟨h1, h2, rfl⟩)⟩
  · refine gV_it rfl (by unfold rng; omega) rfl ?_
    repeat (refine gV_s rfl (by first | exact trivial | omega) ?_)
    exact gV_ret rfl trivial ⟨⟨fun _ _ => rfl, rfl⟩, -2, rfl, Or.inl ⟨h1, rfl⟩⟩
/-- answers of least, and what it keeps -/
def lsA (S : Mem) (k v h' : Int) (pl' : Int → Int) : Prop := (¬ (0 ≤ k ∧ k ≤ 1000) ∧ v = -2 ∧ h' = S 6 0 ∧ pl' = S 43) ∨ ((0 ≤ k ∧ k ≤ 1000) ∧ ¬ anyUp S ∧ v = -3 ∧ h' = S 6 0 ∧ pl' = S 43) ∨ ((0 ≤ k ∧ k ≤ 1000) ∧ anyUp S ∧ ∃ F, Imp (Ev0 S k) (Qa (S 9) (S 1 0)) (Mv S) 9 (S 6 0) (S 43) F h' pl' ∧ v = if F ≤ 8 then F else -6)
theorem lsA_fun {S : Mem} {k v h1 v' h1' : Int} {pl1 pl1' : Int → Int} (hL : S 1 0 ≤ 4) (h : lsA S k v h1 pl1) (h' : lsA S k v' h1' pl1') : v = v' ∧ h1 = h1' ∧ pl1 = pl1' := by
  rcases h with ⟨a, b, c, e⟩ | ⟨a, b, c, e, f⟩ | ⟨a, b, F, c, e⟩ <;> rcases h' with ⟨a', b', c', e'⟩ | ⟨a', b', c', e', f'⟩ | ⟨a', b', F', c', e'⟩
  · exact ⟨by omega, by omega, by rw [e, e']⟩
  · exact absurd a' a
  · exact absurd a' a
  · exact absurd a a'
  · exact ⟨by omega, by omega, by rw [f, f']⟩
  · exact absurd b' b
  · exact absurd a a'
  · exact absurd b b'
  · obtain ⟨q1, q2, q3⟩ := Imp_fun (fun s hs => vld_dig hL hs) c c'
    subst q1
    exact ⟨by rw [e, e'], q2, q3⟩
/-- what a search leaves of the class -/
def lsM0 (S M' : Mem) : Prop := (∀ r, r ≠ 6 → r ≠ 43 → r ≠ 44 → r ≠ 46 → M' r = S r)
theorem wgt_loop {d : Nat} {S : Mem} {k : Int} {P : PV → Mem → Prop} (h : NI S) (hP : ∀ (M' : Mem) (z : Int), (∀ r, r ≠ 6 → r ≠ 44 → M' r = S r) → M' 6 8 = sA S → M' 6 9 = sm (upLd S) (S 1 0).toNat → M' 6 10 = k → M' 6 0 = S 6 0 → (∀ i : Int, 0 ≤ i → i < 8 → M' 44 i = rates S i) → gV mX4_fewestMoves (d + 3) P 33 [vR 6, vI k, vI z] [] M') :
    ∀ (n j : Nat) (M : Mem), j + n = 8 → (∀ r, r ≠ 6 → r ≠ 44 → M r = S r) → M 6 8 = sA S → M 6 9 = sm (upLd S) (S 1 0).toNat → M 6 10 = k → M 6 0 = S 6 0 → (∀ i : Int, 0 ≤ i → i < j → M 44 i = rates S i) → gV mX4_fewestMoves (d + 3) P 10 [vR 6, vI k, vI j] [vI 8, vI j] M := by
  intro n
  induction n with
  | zero =>
    intro j M hj h1 h2 h3 h4 h5 h6
    have e : j = 8 := by omega
    subst e
    exact gV_it rfl (by unfold rng; omega) (by omega) (hP M _ h1 h2 h3 h4 h5 (fun i a b => h6 i a (by omega)))
  | succ n ih =>
    intro j M hj h1 h2 h3 h4 h5 h6
    have hA2 : AI M (fun _ => S 5 0) (-1) := AI_pl h (fun r a b => h1 r a (by omega)) (by rw [h5]; exact h.1.2.2.2.2.2.2.2)
    have er : rates M j = rates S j := rates_cong (h1 3 (by decide) (by decide)) (h1 24 (by decide) (by decide)) (h1 25 (by decide) (by decide)) _
    refine gV_in rfl (by unfold rng; omega) (by omega) ?_
    repeat (refine gV_s rfl (by first | exact trivial | omega) ?_)
    refine gV_cV (ok_rateOfBucket (d := d + 1) (M := M) (b := j) (P := fun r M' => r = vI (rates S j) ∧ M' = M) hA2 (by unfold rng; omega) ⟨by rw [er], rfl⟩) mX1_rateOfBucket_ok sX4_X1_rateOfBucket rfl rfl rfl rfl rfl rfl ?_
    rintro r M' ⟨rfl, rfl⟩
    repeat (refine gV_s rfl (by first | exact trivial | omega) ?_)
    refine ih (j + 1) _ (by omega) (fun r a b => by rw [mw_rn _ _ _ b]; exact h1 r a b) (by rw [mw_rn _ _ _ (by decide)]; exact h2) (by rw [mw_rn _ _ _ (by decide)]; exact h3) (by rw [mw_rn _ _ _ (by decide)]; exact h4) (by rw [mw_rn _ _ _ (by decide)]; exact h5) (fun i a b => ?_)
    rw [mw_rs, up1_e]
    split
    · rename_i e; rw [e]
    · exact h6 i a (by push_cast at b; omega)
theorem ok_fewest {d : Nat} {S : Mem} {k : Int} (h : NI S) (hu : anyUp S) (hk : 0 ≤ k ∧ k ≤ 1000) (hz : ∀ l : Int, 0 ≤ l → l < 4 → S 45 l = 0) : gOk mX4_fewestMoves (d + 19) [vR 6, vI k] S (fun r M' => lsM0 S M' ∧ ∃ v, r = vI v ∧ lsA S k v (M' 6 0) (M' 43)) := by
  have hL := h.1.1
  have hw := sW_bd h
  have hA := sA_bd h
  refine gOk_of mX4_fewestMoves_ok (by simp) (Nat.le_of_ble_eq_true rfl) ?_
  repeat (refine gV_s rfl (by first | exact trivial | omega) ?_)
  refine gV_cV (ok_measure (d := d + 16) (k := k) (P := fun r M' => r = none ∧ MsP S M' k (S 1 0).toNat) h (fun M' a => ⟨rfl, a⟩)) mX4_measure_ok sX4_X4_measure rfl rfl rfl rfl rfl rfl ?_
  rintro r M1 ⟨rfl, g1, g2, g3, g4, g5⟩
  repeat (refine gV_s rfl (by first | exact trivial | omega) ?_)
  refine wgt_loop (d := d + 16) (S := S) (k := k) h (fun M' z w1 w2 w3 w4 w5 w6 => ?_) 8 0 M1 rfl (fun r a b => g1 r a) g2 g3 g4 (g5 0 (by decide) (by decide) (by decide)) (fun i a b => by omega)
  rw [upLd_all h hu] at w3
  have er : ∀ r, r ≠ 6 → mw M' 6 11 9 r = M' r := fun r a => mw_rn _ _ _ a
  have e6 : ∀ i, i ≠ 11 → mw M' 6 11 9 6 i = M' 6 i := fun i a => by rw [mw_rs, up1_n _ _ a]
  have e611 : mw M' 6 11 9 6 11 = 9 := by rw [mw_rs, up1_s]
  have c1 : mw M' 6 11 9 1 = S 1 := by rw [er 1 (by decide), w1 1 (by decide) (by decide)]
  have c9 : mw M' 6 11 9 9 = S 9 := by rw [er 9 (by decide), w1 9 (by decide) (by decide)]
  have c7 : mw M' 6 11 9 7 = S 7 := by rw [er 7 (by decide), w1 7 (by decide) (by decide)]
  have c19 : mw M' 6 11 9 19 = S 19 := by rw [er 19 (by decide), w1 19 (by decide) (by decide)]
  have c43 : mw M' 6 11 9 43 = S 43 := by rw [er 43 (by decide), w1 43 (by decide) (by decide)]
  have c45 : mw M' 6 11 9 45 = S 45 := by rw [er 45 (by decide), w1 45 (by decide) (by decide)]
  have c44 : ∀ i : Int, 0 ≤ i → i < 8 → mw M' 6 11 9 44 i = rates S i := fun i a b => by rw [er 44 (by decide)]; exact w6 i a b
  have c8 : mw M' 6 11 9 6 8 = sA S := by rw [e6 8 (by decide), w2]
  have c99 : mw M' 6 11 9 6 9 = sW S := by rw [e6 9 (by decide), w3]
  have c10 : mw M' 6 11 9 6 10 = k := by rw [e6 10 (by decide), w4]
  have c0 : mw M' 6 11 9 6 0 = S 6 0 := by rw [e6 0 (by decide), w5]
  have hsm : sm (mw M' 6 11 9 44) 8 = sW S := sm_cong (fun j a b => c44 j a (by omega))
  have hC : PlC (mw M' 6 11 9) := by
    refine ⟨by rw [c1]; exact hL, fun l => ?_, by rw [c9, c1, c19]; exact on_vld h hu, fun i a b => by rw [c44 i a b]; exact rates_bd h i, by rw [hsm]; exact hw.2, by rw [c8]; exact hA, by rw [c99]; exact hw, by rw [c10]; exact hk, fun l => ?_⟩
    · rw [c9]
      rcases h.2.1.2.1 l with q | q
      · exact Or.inl q
      · exact Or.inr q.1
    · rw [c7]
      have := h.2.1.2.2 l
      omega
  have hI : PI (mw M' 6 11 9) (mw M' 6 11 9) 0 0 := by
    refine ⟨⟨fun _ _ _ _ _ => rfl, fun _ _ _ => rfl⟩, fun b a c => by omega, fun l l0 l4 => ?_, rfl, by rw [e611]; decide, by rw [e611]; decide, fun l l0 lL hul => ?_⟩
    · rw [c45, hz l l0 l4]; rfl
    · rw [c8, c99, c10, c7]
      unfold wth
      show (0 : Int) * sA S * 100 ≤ _
      have b2 := mul_bd (x := 100 + k) (a := 1100) (by omega) (by omega) hw.1 hw.2
      have hsp := h.2.1.2.2 l
      have b3 := mul_bd b2.1 b2.2 hsp.1 hsp.2.1
      omega
  have hp := place_all hC 8 0 rfl d (mw M' 6 11 9) 0 hI
  repeat (refine gV_s rfl (by first | exact trivial | omega) ?_)
  refine gV_cV hp mX4_place_ok sX4_X4_place rfl rfl rfl rfl rfl rfl ?_
  rintro r M2 ⟨rfl, o1, o2, o3, o4⟩
  rw [e611, c0, c43] at o4
  have o5 := Imp_all (by rw [c9, c1, c19]; exact on_vld h hu) o4
  have o6 : Imp (Ev0 S k) (Qa (S 9) (S 1 0)) (Mv S) 9 (S 6 0) (S 43) (M2 6 11) (M2 6 0) (M2 43) := by
    rw [c8, c99, c10, c7, c9, c1, c19] at o5
    refine Imp_E (fun s => ?_) o5
    unfold Ev0 evn
    have : ∀ l, ldN (mw M' 6 11 9 44) s l 8 = ldN (rates S) s l 8 := fun l => ldN_congw (fun b b0 b1 => c44 b b0 (by omega))
    simp only [this]
  have hl0 : lsM0 S M2 := fun r a1 a2 a3 a4 => by
    by_cases e : r = 45
    · subst e; rw [o2, c45]
    · rw [o1.1 r a1 a2 e a4, er r a1, w1 r a1 a3]
  have hF : -1 ≤ M2 6 11 ∧ M2 6 11 ≤ 9 := by
    refine ⟨?_, Imp_le o6⟩
    rcases o6 with a | ⟨a1, a2, t, a3, a4, a5, a6, a7⟩
    · have := a.1; omega
    · have := (ct_nn (fun j => decide (t j ≠ S 19 j)) 8).1
      have a5' : ct (fun j => decide (t j ≠ S 19 j)) 8 = M2 6 11 := a5
      omega
  repeat (refine gV_s rfl (by first | exact trivial | omega) ?_)
  refine gV_i rfl (by unfold rng; omega) (fun h1 => ?_) (fun h1 => ?_)
  · repeat (refine gV_s rfl (by first | exact trivial | omega) ?_)
    exact gV_ret rfl trivial ⟨hl0, -6, rfl, Or.inr (Or.inr ⟨hk, hu, M2 6 11, o6, by rw [if_neg (by omega)]⟩)⟩
  · repeat (refine gV_s rfl (by first | exact trivial | omega) ?_)
    exact gV_ret rfl trivial ⟨hl0, M2 6 11, rfl, Or.inr (Or.inr ⟨hk, hu, M2 6 11, o6, by rw [if_pos (by omega)]⟩)⟩
theorem ok_cLeast {d : Nat} {S : Mem} {k : Int} (h : NI S) (hk : rng k) (hz : ∀ l : Int, 0 ≤ l → l < 4 → S 45 l = 0) : gOk mX6_least (d + 20) [vR 0, vI k] S (fun r M' => lsM0 S M' ∧ ∃ v, r = vI v ∧ lsA S k v (M' 6 0) (M' 43)) := by
  refine gOk_of mX6_least_ok (by simp) (Nat.le_of_ble_eq_true rfl) ?_
  repeat (refine gV_s rfl (by first | exact trivial | omega) ?_)
  refine gV_cS (ok_isWithin (d := d + 19) (M := S) hk (by unfold rng; omega) (by unfold rng; omega)) mX6_isWithin_ok sX6_X6_isWithin rfl rfl rfl rfl ?_
  rintro r M' ⟨rfl, ⟨h1, rfl⟩ | ⟨h1, rfl⟩⟩
  · refine gV_in rfl (by unfold rng; omega) (by omega) ?_
    repeat (refine gV_s rfl (by first | exact trivial | omega) ?_)
    refine gV_cV (ok_anyUp (d := d + 19) (M := M') h) mX3_isAnyUp_ok sX6_X3_isAnyUp rfl rfl rfl rfl rfl rfl ?_
    rintro r M2 ⟨rfl, ⟨h2, rfl⟩ | ⟨h2, rfl⟩⟩
    · refine gV_in rfl (by unfold rng; omega) (by omega) ?_
      repeat (refine gV_s rfl (by first | exact trivial | omega) ?_)
      refine gV_cV (ok_fewest (d := d) h h2 h1 hz) mX4_fewestMoves_ok sX6_X4_fewestMoves rfl rfl rfl rfl rfl rfl ?_
      rintro r M3 ⟨hl, v, rfl, hv⟩
      exact gV_ret rfl trivial ⟨hl, v, rfl, hv⟩
    · refine gV_it rfl (by unfold rng; omega) rfl ?_
      repeat (refine gV_s rfl (by first | exact trivial | omega) ?_)
      exact gV_ret rfl trivial ⟨fun _ _ _ _ _ => rfl, -3, rfl, Or.inr (Or.inl ⟨h1, h2, rfl, rfl, rfl⟩)⟩
  · refine gV_it rfl (by unfold rng; omega) rfl ?_
    repeat (refine gV_s rfl (by first | exact trivial | omega) ?_)
    exact gV_ret rfl trivial ⟨fun _ _ _ _ _ => rfl, -2, rfl, Or.inl ⟨h1, rfl, rfl, rfl⟩⟩
end
section
/-! The reference: evenness, the next plan. -/
def uS (M : Mem) : Int → Int := fun l => if M 50 l = 1 then M 48 l else 0
def uL (M : Mem) : Int → Int := fun l => if M 50 l = 1 then M 71 l else 0
def evP (M : Mem) (k l : Int) : Prop := M 50 l = 1 → M 71 l * sm (uS M) (M 47 1).toNat * 100 ≤ (100 + k) * sm (uL M) (M 47 1).toNat * M 48 l
def EC (M : Mem) : Prop := (0 ≤ M 47 1 ∧ M 47 1 ≤ 4) ∧ (∀ l, M 50 l = 0 ∨ M 50 l = 1) ∧ (∀ l, 0 ≤ M 48 l ∧ M 48 l ≤ 8) ∧ (∀ l : Int, 0 ≤ l → l < M 47 1 → 0 ≤ M 71 l ∧ M 71 l ≤ 1600)
theorem ev_bd {M : Mem} (h : EC M) : (0 ≤ sm (uS M) (M 47 1).toNat ∧ sm (uS M) (M 47 1).toNat ≤ 32) ∧ (0 ≤ sm (uL M) (M 47 1).toNat ∧ sm (uL M) (M 47 1).toNat ≤ 6400) := by
  obtain ⟨hL, hu, hs, hl⟩ := h
  have a := sm_bd (g := uS M) (c := 8) (n := (M 47 1).toNat) (fun i _ _ => by have := hs i; unfold uS; split <;> omega)
  have b := sm_bd (g := uL M) (c := 1600) (n := (M 47 1).toNat) (fun i a c => by have := hl i a (by omega); unfold uL; split <;> omega)
  omega
theorem ev2_loop {d : Nat} {M : Mem} {k : Int} (h : EC M) (hk : 0 ≤ k ∧ k ≤ 1000) : ∀ (n j : Nat) (e : Int), (j : Int) + n = M 47 1 → ((e = 1 ∧ ∀ l : Int, 0 ≤ l → l < j → evP M k l) ∨ (e = 0 ∧ ¬ ∀ l : Int, 0 ≤ l → l < j → evP M k l)) →
    gV mX7_isEven d (yn (∀ l : Int, 0 ≤ l → l < M 47 1 → evP M k l) M) 82 [vR 47, vI k, vI (sm (uS M) (M 47 1).toNat), vI (sm (uL M) (M 47 1).toNat), vI e, vI j] [vI (M 47 1), vI j] M
  | 0, j, e, hj, he => by
    have hL := h.1
    refine gV_it rfl (by unfold rng; omega) (by omega) ?_
    repeat (refine gV_s rfl (by first | exact trivial | omega) ?_)
    have ej : (j : Int) = M 47 1 := by omega
    rw [ej] at he
    rcases he with ⟨rfl, he⟩ | ⟨rfl, he⟩
    · exact gV_ret rfl (Or.inr rfl) ⟨rfl, Or.inl ⟨he, rfl⟩⟩
    · exact gV_ret rfl (Or.inl rfl) ⟨rfl, Or.inr ⟨he, rfl⟩⟩
  | n + 1, j, e, hj, he => by
    obtain ⟨hL, hu, hs, hl⟩ := id h
    obtain ⟨⟨a0, a1⟩, b0, b1⟩ := ev_bd h
    have huj := hu j
    have hsj := hs j
    have hlj := hl j (by omega) (by omega)
    have p1 := mul_bd hlj.1 hlj.2 a0 a1
    have p2 := mul_bd (x := 100 + k) (a := 1100) (by omega) (by omega) b0 b1
    have p3 := mul_bd p2.1 p2.2 hsj.1 hsj.2
    have e01 : e = 0 ∨ e = 1 := by rcases he with q | q; exact Or.inr q.1; exact Or.inl q.1
    have nxt : ∀ e' : Int, ((e' = 1 ∧ ∀ l : Int, 0 ≤ l → l < (j + 1 : Nat) → evP M k l) ∨ (e' = 0 ∧ ¬ ∀ l : Int, 0 ≤ l → l < (j + 1 : Nat) → evP M k l)) → gV mX7_isEven d (yn (∀ l : Int, 0 ≤ l → l < M 47 1 → evP M k l) M) 142 [vR 47, vI k, vI (sm (uS M) (M 47 1).toNat), vI (sm (uL M) (M 47 1).toNat), vI e, vI j] [vI e'] M := by
      intro e' he'
      repeat (refine gV_s rfl (by first | exact trivial | omega) ?_)
      exact ev2_loop h hk n (j + 1) e' (by push_cast; omega) he'
    have yes : e = 1 → evP M k j → ∀ l : Int, 0 ≤ l → l < (j + 1 : Nat) → evP M k l := fun q1 q2 l l0 l1 => by
      by_cases c : l = j
      · subst c; exact q2
      · rcases he with q | q
        · exact q.2 l l0 (by push_cast at l1; omega)
        · omega
    refine gV_in rfl (by unfold rng; omega) (by omega) ?_
    repeat (refine gV_s rfl (by first | exact trivial | omega) ?_)
    refine gV_i rfl (by unfold rng; omega) (fun h1 => ?_) (fun h1 => ?_)
    · refine gV_s rfl trivial ?_
      refine nxt 0 (Or.inr ⟨rfl, fun q => ?_⟩)
      rcases he with w | w
      · omega
      · exact w.2 (fun l l0 l1 => q l l0 (by push_cast; omega))
    · have e1 : e = 1 := by omega
      repeat (refine gV_s rfl (by first | exact trivial | omega) ?_)
      refine gV_i rfl (by unfold rng; omega) (fun h2 => ?_) (fun h2 => ?_)
      · refine gV_s rfl trivial (gV_s rfl trivial ?_)
        exact nxt 1 (Or.inl ⟨rfl, yes e1 (fun q => by omega)⟩)
      · have u1 : M 50 j = 1 := by omega
        have hr : rng (M 71 j) := by unfold rng; omega
        have hr2 : rng (sm (uS M) (M 47 1).toNat) := by unfold rng; omega
        have hr3 : rng (sm (uL M) (M 47 1).toNat) := by unfold rng; omega
        have hr4 : rng k := by unfold rng; omega
        have hr5 : rng (M 48 j) := by unfold rng; omega
        repeat (refine gV_s rfl (by first | exact trivial | omega | assumption) ?_)
        refine gV_ldc rfl rfl ?_
        repeat (refine gV_s rfl (by first | exact trivial | omega | assumption) ?_)
        refine gV_ldc rfl rfl ?_
        repeat (refine gV_s rfl (by first | exact trivial | omega | assumption) ?_)
        refine gV_lcmp rfl (by unfold rng64; omega) (by unfold rng64; omega) ?_
        by_cases c : M 71 j * sm (uS M) (M 47 1).toNat * 100 ≤ (100 + k) * sm (uL M) (M 47 1).toNat * M 48 j
        · rw [if_neg (by omega)]
          refine gV_in rfl (by unfold rng; split <;> omega) (by split <;> omega) ?_
          refine gV_s rfl trivial (gV_s rfl trivial ?_)
          exact nxt 1 (Or.inl ⟨rfl, yes e1 (fun _ => c)⟩)
        · rw [if_pos (by omega)]
          refine gV_it rfl (by unfold rng; omega) (by omega) ?_
          refine gV_s rfl trivial ?_
          exact nxt 0 (Or.inr ⟨rfl, fun q => c (q j (by omega) (by push_cast; omega) u1)⟩)
theorem ev1_loop {d : Nat} {M : Mem} {k : Int} (h : EC M) (hk : 0 ≤ k ∧ k ≤ 1000) : ∀ (n j : Nat), (j : Int) + n = M 47 1 →
    gV mX7_isEven d (yn (∀ l : Int, 0 ≤ l → l < M 47 1 → evP M k l) M) 13 [vR 47, vI k, vI (sm (uS M) j), vI (sm (uL M) j), vI j, none] [vI (M 47 1), vI j] M
  | 0, j, hj => by
    have hL := h.1
    have e : j = (M 47 1).toNat := by omega
    subst e
    refine gV_it rfl (by unfold rng; omega) (by omega) ?_
    repeat (refine gV_s rfl (by first | exact trivial | omega) ?_)
    exact ev2_loop h hk (M 47 1).toNat 0 1 (by omega) (Or.inl ⟨rfl, fun l a b => by omega⟩)
  | n + 1, j, hj => by
    obtain ⟨hL, hu, hs, hl⟩ := id h
    have huj := hu j
    have ih := ev1_loop (d := d) h hk n (j + 1) (by push_cast; omega)
    rw [sm_s, sm_s] at ih
    refine gV_in rfl (by unfold rng; omega) (by omega) ?_
    repeat (refine gV_s rfl (by first | exact trivial | omega) ?_)
    refine gV_i rfl (by unfold rng; omega) (fun h1 => ?_) (fun h1 => ?_)
    · rw [show uS M j = 0 by unfold uS; rw [if_neg (by omega)], show uL M j = 0 by unfold uL; rw [if_neg (by omega)]] at ih
      repeat (refine gV_s rfl (by first | exact trivial | omega) ?_)
      refine gV_it rfl (by unfold rng; omega) h1 ?_
      repeat (refine gV_s rfl (by first | exact trivial | omega) ?_)
      exact ih
    · rw [show uS M j = M 48 j by unfold uS; rw [if_pos (by omega)], show uL M j = M 71 j by unfold uL; rw [if_pos (by omega)]] at ih
      repeat (refine gV_s rfl (by first | exact trivial | omega) ?_)
      refine gV_in rfl (by unfold rng; omega) h1 ?_
      repeat (refine gV_s rfl (by first | exact trivial | omega) ?_)
      exact ih
theorem ok_isEvenM {d : Nat} {M : Mem} {k : Int} (h : EC M) (hk : 0 ≤ k ∧ k ≤ 1000) : gOk mX7_isEven d [vR 47, vI k] M (yn (∀ l : Int, 0 ≤ l → l < M 47 1 → evP M k l) M) := by
  have hL := h.1
  refine gOk_of mX7_isEven_ok (by simp) (Nat.le_of_ble_eq_true rfl) ?_
  repeat (refine gV_s rfl (by first | exact trivial | omega) ?_)
  exact ev1_loop h hk (M 47 1).toNat 0 (by omega)
/-! the next link that is up -/
def nuP (M : Mem) (a v : Int) : Prop := (v = -6 ∧ ∀ l, a ≤ l → l < M 47 1 → M 50 l ≠ 1) ∨ (a ≤ v ∧ v < M 47 1 ∧ M 50 v = 1 ∧ ∀ l, a ≤ l → l < v → M 50 l ≠ 1)
theorem nu_loop {d : Nat} {M : Mem} {a : Int} (hL : 0 ≤ M 47 1 ∧ M 47 1 ≤ 4) (hu : ∀ l, M 50 l = 0 ∨ M 50 l = 1) (a0 : 0 ≤ a) : ∀ (n : Nat) (l : Int), a ≤ l → l ≤ 4 → n = (M 47 1 - l).toNat → (∀ j, a ≤ j → j < l → M 50 j ≠ 1) →
    gV mX7_nextUp d (fun r M' => M' = M ∧ ∃ v, r = vI v ∧ nuP M a v) 7 [vR 47, vI a, vI l] [vI (M 47 1), vI l] M
  | 0, l, h1, h2, h3, h4 => by
    refine gV_it rfl (by unfold rng; omega) (by omega) ?_
    repeat (refine gV_s rfl (by first | exact trivial | omega) ?_)
    refine gV_it rfl (by unfold rng; omega) (by omega) ?_
    repeat (refine gV_s rfl (by first | exact trivial | omega) ?_)
    exact gV_ret rfl trivial ⟨rfl, -6, rfl, Or.inl ⟨rfl, fun j q1 q2 => h4 j q1 (by omega)⟩⟩
  | n + 1, l, h1, h2, h3, h4 => by
    have hul := hu l
    refine gV_in rfl (by unfold rng; omega) (by omega) ?_
    repeat (refine gV_s rfl (by first | exact trivial | omega) ?_)
    refine gV_i rfl (by unfold rng; omega) (fun h5 => ?_) (fun h5 => ?_)
    · repeat (refine gV_s rfl (by first | exact trivial | omega) ?_)
      refine nu_loop hL hu a0 n (l + 1) (by omega) (by omega) (by omega) (fun j q1 q2 => ?_)
      by_cases e : j = l
      · subst e; omega
      · exact h4 j q1 (by omega)
    · repeat (refine gV_s rfl (by first | exact trivial | omega) ?_)
      refine gV_in rfl (by unfold rng; omega) (by omega) ?_
      repeat (refine gV_s rfl (by first | exact trivial | omega) ?_)
      exact gV_ret rfl trivial ⟨rfl, l, rfl, Or.inr ⟨h1, by omega, by omega, h4⟩⟩
theorem ok_nextUp {d : Nat} {M : Mem} {a : Int} (hL : 0 ≤ M 47 1 ∧ M 47 1 ≤ 4) (hu : ∀ l, M 50 l = 0 ∨ M 50 l = 1) (a0 : 0 ≤ a) (a4 : a ≤ 4) : gOk mX7_nextUp d [vR 47, vI a] M (fun r M' => M' = M ∧ ∃ v, r = vI v ∧ nuP M a v) := by
  refine gOk_of mX7_nextUp_ok (by simp) (Nat.le_of_ble_eq_true rfl) ?_
  repeat (refine gV_s rfl (by first | exact trivial | omega) ?_)
  exact nu_loop hL hu a0 (M 47 1 - a).toNat a (by omega) a4 rfl (fun j q1 q2 => by omega)
/-! even -/
theorem mev_loop {d : Nat} {S M0 : Mem} {k B : Int} {P : PV → Mem → Prop} (h : NI S) (hB : B ≤ 2000000000) (hP : ∀ (M' : Mem) (z : Int), RM S M' B → Fr M0 M' → (∀ l : Int, 0 ≤ l → l < S 1 0 → M' 71 l = load S l) → gV mX7_even (d + 3) P 51 [vR 47, vI k, vI z] [] M') :
    ∀ (n j : Nat) (M : Mem), (j : Int) + n = S 1 0 → RM S M B → Fr M0 M → (∀ l : Int, 0 ≤ l → l < j → M 71 l = load S l) → gV mX7_even (d + 3) P 31 [vR 47, vI k, vI j] [vI (S 1 0), vI j] M := by
  have hL := h.1.1
  intro n
  induction n with
  | zero =>
    intro j M hj hR hF hl
    refine gV_it rfl (by unfold rng; omega) (by omega) ?_
    exact hP M _ hR hF (fun l a b => hl l a (by omega))
  | succ n ih =>
    intro j M hj hR hF hl
    refine gV_in rfl (by unfold rng; omega) (by omega) ?_
    repeat (refine gV_s rfl (by first | exact trivial | omega) ?_)
    refine gV_cV (ok_mLoad (d := d) (M := M) (l := j) (P := fun r M2 => r = vI (load S j) ∧ M2 = M) h hR hB (by unfold rng; omega) ⟨rfl, rfl⟩) mX7_load_ok sX7_X7_load rfl rfl rfl rfl rfl rfl ?_
    rintro r M2 ⟨rfl, rfl⟩
    have hR2 : RM S (mw M2 71 j (load S j)) B := RM_M hR (fun r a b => mw_rn _ _ _ (by omega))
    repeat (refine gV_s rfl (by first | exact trivial | omega) ?_)
    rw [hR2.s1]
    refine ih (j + 1) _ (by push_cast; omega) hR2 (Fr.w hF (by decide)) (fun l a b => ?_)
    rw [mw_rs, up1_e]
    split
    · rename_i e; rw [e]
    · exact hl l a (by push_cast at b; omega)
theorem uS_eq {S M : Mem} {B : Int} (hR : RM S M B) : sm (uS M) (M 47 1).toNat = sA S := by
  unfold sA
  rw [hR.s1]
  exact sm_cong (fun j _ _ => by unfold uS upSp; rw [hR.e50, hR.e48])
theorem ok_mEven {d : Nat} {S M : Mem} {B k : Int} (h : NI S) (hk : rng k) (hR : RM S M B) (hB : B ≤ 2000000000) : gOk mX7_even (d + 3) [vR 47, vI k] M (fun r M' => RM S M' B ∧ Fr M M' ∧ ∃ v, r = vI v ∧ evA S k v) := by
  have hMM := MR_of h hR hB
  have hL := h.1.1
  refine gOk_of mX7_even_ok (by simp) (Nat.le_of_ble_eq_true rfl) ?_
  repeat (refine gV_s rfl (by first | exact trivial | omega) ?_)
  refine gV_cS (ok_in (d := d + 2) (M := M) hk (by unfold rng; omega) (by unfold rng; omega)) mX7_in_ok sX7_X7_in rfl rfl rfl rfl ?_
  rintro r M' ⟨rfl, ⟨h1, rfl⟩ | ⟨h1, rfl⟩⟩
  · refine gV_in rfl (by unfold rng; omega) (by omega) ?_
    repeat (refine gV_s rfl (by first | exact trivial | omega) ?_)
    refine gV_cV (ok_noneUp (d := d + 2) (M := M') hMM) mX7_noneUp_ok sX7_X7_noneUp rfl rfl rfl rfl rfl rfl ?_
    rw [hR.s1, hR.e50]
    rintro r M2 ⟨rfl, ⟨h2, rfl⟩ | ⟨h2, rfl⟩⟩
    · refine gV_in rfl (by unfold rng; omega) (by omega) ?_
      repeat (refine gV_s rfl (by first | exact trivial | omega) ?_)
      refine gV_ret rfl trivial ⟨hR, Fr.rf, -3, rfl, Or.inr (Or.inl ⟨h1, fun ⟨l, a, b, c⟩ => ?_, rfl⟩)⟩
      have := h2 l a b
      omega
    · have hu : anyUp S := Classical.byContradiction (fun q => h2 (fun l a b => by
        rcases h.2.1.2.1 l with w | w
        · exact w
        · exact absurd ⟨l, a, b, w.1⟩ q))
      refine gV_it rfl (by unfold rng; omega) rfl ?_
      repeat (refine gV_s rfl (by first | exact trivial | omega) ?_)
      rw [hR.s1]
      refine mev_loop (d := d) (S := S) (M0 := M2) (B := B) h hB (fun M3 z hR3 hF3 hl3 => ?_) (S 1 0).toNat 0 M2 (by omega) hR Fr.rf (fun l a b => by omega)
      have e1 := hR3.s1
      have hw := sW_bd h
      have hld : ∀ l, 0 ≤ load S l ∧ load S l ≤ 1600 := fun l => by
        rw [load_ldN h]
        have := ldN_le (w := rates S) (t := S 19) (l := l) (fun i _ _ => (rates_bd h i).1) 8 (by omega)
        have h2 : ldN (rates S) (S 19) l 8 ≤ sW S := this.2
        omega
      have hEC : EC M3 := by
        refine ⟨by rw [e1]; exact hL, fun l => ?_, fun l => ?_, fun l a b => ?_⟩
        · rw [hR3.e50]; have := h.2.1.2.1 l; omega
        · rw [hR3.e48]; have := h.2.1.2.2 l; omega
        · rw [hl3 l a (by omega)]; exact hld l
      have euL : sm (uL M3) (M3 47 1).toNat = sW S := by
        rw [← upLd_all h hu, e1]
        exact sm_cong (fun j a b => by unfold uL upLd; rw [hR3.e50, hl3 j a (by omega)])
      have hiff : (∀ l : Int, 0 ≤ l → l < M3 47 1 → evP M3 k l) ↔ Ev0 S k (S 19) := by
        unfold evP Ev0 evn wth
        rw [uS_eq hR3, euL, hR3.s1, hR3.e50, hR3.e48]
        constructor
        · intro q l a b c
          have := q l a b c
          rw [hl3 l a b, load_ldN h] at this
          exact this
        · intro q l a b c
          rw [hl3 l a b, load_ldN h]
          exact q l a b c
      repeat (refine gV_s rfl (by first | exact trivial | omega) ?_)
      refine gV_cV (ok_isEvenM (d := d + 2) (M := M3) hEC h1) mX7_isEven_ok sX7_X7_isEven rfl rfl rfl rfl rfl rfl ?_
      rintro r M4 ⟨rfl, ⟨h5, rfl⟩ | ⟨h5, rfl⟩⟩
      · refine gV_in rfl (by unfold rng; omega) (by omega) ?_
        repeat (refine gV_s rfl (by first | exact trivial | omega) ?_)
        exact gV_ret rfl trivial ⟨hR3, hF3, 1, rfl, Or.inr (Or.inr ⟨h1, hu, Or.inl ⟨hiff.mp h5, rfl⟩⟩)⟩
      · refine gV_it rfl (by unfold rng; omega) rfl ?_
        repeat (refine gV_s rfl (by first | exact trivial | omega) ?_)
        exact gV_ret rfl trivial ⟨hR3, hF3, 0, rfl, Or.inr (Or.inr ⟨h1, hu, Or.inr ⟨fun q => h5 (hiff.mpr q), rfl⟩⟩)⟩
  · refine gV_it rfl (by unfold rng; omega) rfl ?_
    repeat (refine gV_s rfl (by first | exact trivial | omega) ?_)
    exact gV_ret rfl trivial ⟨hR, Fr.rf, -2, rfl, Or.inl ⟨h1, rfl⟩⟩
end
section
/-! The reference: the next plan in order. -/
theorem ldN_chg {w t : Int → Int} {b v l : Int} (b0 : 0 ≤ b) : ∀ n : Nat, ldN w (up1 t b v) l n = ldN w t l n + (if b < n then (if v = l then w b else 0) - (if t b = l then w b else 0) else 0)
  | 0 => by rw [if_neg (by omega)]; rfl
  | n + 1 => by
    have ih := ldN_chg (w := w) (t := t) (v := v) (l := l) b0 n
    unfold ldN at *
    rw [sm_s, sm_s, ih]
    by_cases e : (n : Int) = b
    · rw [if_neg (show ¬ b < (n : Int) by omega), if_pos (show b < ((n + 1 : Nat) : Int) by push_cast; omega), e, up1_s]
      omega
    · rw [up1_n _ _ e]
      by_cases e2 : b < n
      · rw [if_pos e2, if_pos (show b < ((n + 1 : Nat) : Int) by push_cast; omega)]
        omega
      · rw [if_neg e2, if_neg (show ¬ b < ((n + 1 : Nat) : Int) by push_cast; omega)]
        omega
def TC (M : Mem) : Prop := (0 ≤ M 47 1 ∧ M 47 1 ≤ 4) ∧ (∀ l, M 50 l = 0 ∨ M 50 l = 1) ∧ vld (M 50) (M 47 1) (M 73) 8 ∧ (∀ l : Int, 0 ≤ l → l < 4 → M 71 l = ldN (M 72) (M 73) l 8)
def TO (M : Mem) : PV → Mem → Prop := fun r M' => (∀ r, r ≠ 71 → r ≠ 73 → M' r = M r) ∧ ((r = vI 1 ∧ TC M' ∧ rk (M 73) 8 < rk (M' 73) 8 ∧ ∀ s, vld (M 50) (M 47 1) s 8 → rk (M 73) 8 < rk s 8 → rk (M' 73) 8 ≤ rk s 8) ∨ (r = vI 0 ∧ ∀ s, vld (M 50) (M 47 1) s 8 → rk s 8 ≤ rk (M 73) 8))
theorem turn_loop {d : Nat} {M : Mem} (h : TC M) : ∀ (n : Nat) (M' : Mem) (z : PV), n ≤ 8 → TC M' → (∀ r, r ≠ 71 → r ≠ 73 → M' r = M r) → (∀ j : Int, 0 ≤ j → j < n → M' 73 j = M 73 j) → (∀ j : Int, n ≤ j → j < 8 → ∀ l : Int, 0 ≤ l → l < M 47 1 → M 50 l = 1 → M' 73 j ≤ l ∧ l ≤ M 73 j) →
    gV mX7_turns (d + 1) (TO M) 4 [vR 47, vI ((n : Int) - 1), z] [vI ((n : Int) - 1)] M'
  | 0, M', z, hn, hC, h1, h2, h3 => by
    refine gV_it rfl (by unfold rng; omega) (by omega) ?_
    repeat (refine gV_s rfl (by first | exact trivial | omega) ?_)
    refine gV_ret rfl (Or.inl rfl) ⟨h1, Or.inr ⟨rfl, fun s hs => ?_⟩⟩
    have := rk_le (s := s) (t := M 73) (b := 0) (Int.le_refl _) 8 (fun i a b => by
      have := hs i (by omega) (by omega)
      exact (h3 i (by omega) (by omega) (s i) this.1 this.2.1 this.2.2).2)
    exact this
  | n + 1, M', z, hn, hC, h1, h2, h3 => by
    obtain ⟨hL, hu, hv, hld⟩ := id h
    obtain ⟨-, -, hv', hld'⟩ := id hC
    have e47 : M' 47 = M 47 := h1 47 (by decide) (by decide)
    have e50 : M' 50 = M 50 := h1 50 (by decide) (by decide)
    have e72 : M' 72 = M 72 := h1 72 (by decide) (by decide)
    have en : (((n + 1 : Nat) : Int)) - 1 = n := by push_cast; omega
    have et : M' 73 n = M 73 n := h2 n (by omega) (by push_cast; omega)
    obtain ⟨t0, t1, t2⟩ := hv n (by omega) (by omega)
    rw [en]
    refine gV_in rfl (by unfold rng; omega) (by omega) ?_
    repeat (refine gV_s rfl (by first | exact trivial | omega) ?_)
    rw [et]
    refine gV_in rfl (by unfold rng; omega) (by omega) ?_
    repeat (refine gV_s rfl (by first | exact trivial | omega) ?_)
    rw [et]
    refine gV_cV (ok_nextUp (d := d) (M := M') (a := M 73 n + 1) (by rw [e47]; exact hL) (by rw [e50]; exact hu) (by omega) (by omega)) mX7_nextUp_ok sX7_X7_nextUp rfl rfl rfl rfl rfl rfl ?_
    rintro r M1 ⟨rfl, l, rfl, hl⟩
    unfold nuP at hl
    rw [e47, e50] at hl
    have hl4 : -6 ≤ l ∧ l ≤ 3 := by omega
    -- the bucket stands on v now
    have done : ∀ v : Int, 0 ≤ v → v < M 47 1 → M 50 v = 1 → (∀ M3 : Mem, TC M3 → (∀ r, r ≠ 71 → r ≠ 73 → M3 r = M r) → M3 73 = up1 (M1 73) n v → gV mX7_turns (d + 1) (TO M) 88 [vR 47, vI n, vI l] [] M3) → gV mX7_turns (d + 1) (TO M) 67 [vR 47, vI n, vI l] [vI v, vI n, vR 73] (mw M1 71 (M 73 n) (M1 71 (M 73 n) - M1 72 n)) := by
      intro v v0 v1 v2 kk
      refine gV_s rfl (by omega) ?_
      iterate 6 (refine gV_s rfl (by first | exact trivial | omega) ?_)
      rw [show mw (mw M1 71 (M 73 n) (M1 71 (M 73 n) - M1 72 n)) 73 n v 73 n = v by rw [mw_rs, up1_s]]
      iterate 8 (refine gV_s rfl (by first | exact trivial | omega) ?_)
      simp only [mw_rn, mw_rs, ne_eq, not_false_eq_true, Nat.reduceEqDiff, Nat.reduceLT, Nat.reduceLeDiff, true_or, or_true, forall_const]
      refine kk _ ⟨?_, ?_, ?_, fun l' a b => ?_⟩ (fun r a b => ?_) ?_
      · simp only [mw_rn, ne_eq, not_false_eq_true, Nat.reduceEqDiff, Nat.reduceLT, Nat.reduceLeDiff, true_or, or_true, forall_const]; rw [e47]; exact hL
      · simp only [mw_rn, ne_eq, not_false_eq_true, Nat.reduceEqDiff, Nat.reduceLT, Nat.reduceLeDiff, true_or, or_true, forall_const]; rw [e50]; exact hu
      · simp only [mw_rn, mw_rs, ne_eq, not_false_eq_true, Nat.reduceEqDiff, Nat.reduceLT, Nat.reduceLeDiff, true_or, or_true, forall_const]
        rw [e47, e50]
        intro j a b
        rw [up1_e]
        split
        · exact ⟨v0, v1, v2⟩
        · have := hv' j a b
          rw [e47, e50] at this
          exact this
      · simp only [mw_rn, mw_rs, ne_eq, not_false_eq_true, Nat.reduceEqDiff, Nat.reduceLT, Nat.reduceLeDiff, true_or, or_true, forall_const]
        rw [ldN_chg (by omega), if_pos (by omega), ← hld' l' a b, et]
        simp only [up1_e]
        by_cases c1 : l' = v <;> by_cases c2 : l' = M 73 n <;> by_cases c3 : v = M 73 n <;> simp_all <;> omega
      · rw [mw_rn _ _ _ a, mw_rn _ _ _ b, mw_rn _ _ _ a]; exact h1 r a b
      · simp only [mw_rn, mw_rs, ne_eq, not_false_eq_true, Nat.reduceEqDiff, Nat.reduceLT, Nat.reduceLeDiff, true_or, or_true, forall_const]
    iterate 7 (refine gV_s rfl (by first | exact trivial | omega) ?_)
    rw [et]
    iterate 12 (refine gV_s rfl (by first | exact trivial | omega) ?_)
    refine gV_i rfl (by unfold rng; omega) (fun h5 => ?_) (fun h5 => ?_)
    · have hl6 : ∀ l', M 73 n + 1 ≤ l' → l' < M 47 1 → M 50 l' ≠ 1 := by
        rcases hl with q | q
        · exact q.2
        · omega
      refine gV_s rfl trivial (gV_s rfl trivial ?_)
      refine gV_cV (ok_nextUp (d := d) (M := mw M1 71 (M 73 n) (M1 71 (M 73 n) - M1 72 n)) (a := 0) (by rw [mw_rn _ _ _ (by decide), e47]; exact hL) (by rw [mw_rn _ _ _ (by decide), e50]; exact hu) (by omega) (by omega)) mX7_nextUp_ok sX7_X7_nextUp rfl rfl rfl rfl rfl rfl ?_
      rintro r M2 ⟨rfl, u, rfl, hu0⟩
      unfold nuP at hu0
      rw [mw_rn _ _ _ (by decide), mw_rn _ _ _ (by decide), e47, e50] at hu0
      have hu1 : 0 ≤ u ∧ u < M 47 1 ∧ M 50 u = 1 ∧ ∀ l', 0 ≤ l' → l' < u → M 50 l' ≠ 1 := by
        rcases hu0 with q | q
        · exact absurd t2 (q.2 (M 73 n) t0 t1)
        · exact q
      refine done u hu1.1 hu1.2.1 hu1.2.2.1 (fun M3 k1 k2 k3 => ?_)
      repeat (refine gV_s rfl (by first | exact trivial | omega) ?_)
      refine gV_it rfl (by unfold rng; omega) h5 ?_
      repeat (refine gV_s rfl (by first | exact trivial | omega) ?_)
      refine turn_loop h n M3 _ (by omega) k1 k2 (fun j a b => ?_) (fun j a b l' a1 a2 a3 => ?_)
      · rw [k3, up1_n _ _ (by omega)]; exact h2 j a (by push_cast; omega)
      · rw [k3, up1_e]
        split
        · rename_i e
          rw [e]
          refine ⟨?_, ?_⟩
          · by_cases c : u ≤ l'
            · exact c
            · exact absurd a3 (hu1.2.2.2 l' a1 (by omega))
          · by_cases c : l' ≤ M 73 n
            · exact c
            · exact absurd a3 (hl6 l' (by omega) a2)
        · exact h3 j (by push_cast; omega) b l' a1 a2 a3
    · have hl7 : M 73 n + 1 ≤ l ∧ l < M 47 1 ∧ M 50 l = 1 ∧ ∀ l', M 73 n + 1 ≤ l' → l' < l → M 50 l' ≠ 1 := by
        rcases hl with q | q
        · omega
        · exact q
      refine gV_s rfl trivial (gV_s rfl trivial ?_)
      refine done l (by omega) hl7.2.1 hl7.2.2.1 (fun M3 k1 k2 k3 => ?_)
      repeat (refine gV_s rfl (by first | exact trivial | omega) ?_)
      refine gV_in rfl (by unfold rng; omega) h5 ?_
      repeat (refine gV_s rfl (by first | exact trivial | omega) ?_)
      have dt : dig (M 73) := vld_dig hL.2 hv
      have d3 : dig (M3 73) := by
        have := k1.2.2.1
        have e1 : M3 47 = M 47 := k2 47 (by decide) (by decide)
        exact vld_dig (by rw [e1]; exact hL.2) this
      have g3 : ∀ j : Int, 0 ≤ j → j < n → M3 73 j = M 73 j := fun j a b => by rw [k3, up1_n _ _ (by omega)]; exact h2 j a (by push_cast; omega)
      have g3n : M3 73 n = l := by rw [k3, up1_s]
      have en3 : rk (M3 73) n = rk (M 73) n := rk_cong (fun j a b => g3 j a b)
      refine gV_ret rfl (Or.inr rfl) ⟨k2, Or.inl ⟨rfl, k1, ?_, fun s hs hlt => ?_⟩⟩
      · have lt : rk (M 73) (n + 1) < rk (M3 73) (n + 1) := by
          simp only [rk]
          rw [en3, g3n]
          omega
        have := rk_lt dt d3 lt (8 - (n + 1)) (by omega)
        rw [show n + 1 + (8 - (n + 1)) = 8 by omega] at this
        exact this
      · have ds : dig s := vld_dig hL.2 hs
        have q1 : rk (M 73) (n + 1) < rk s (n + 1) := by
          by_cases c : rk (M 73) (n + 1) < rk s (n + 1)
          · exact c
          · have := rk_le (s := s) (t := M 73) (b := n + 1) (by omega) (8 - (n + 1)) (fun i a b => by
              have w := hs i (by omega) (by omega)
              exact (h3 i (by push_cast at a ⊢; omega) (by omega) (s i) w.1 w.2.1 w.2.2).2)
            rw [show n + 1 + (8 - (n + 1)) = 8 by omega] at this
            omega
        have q2 : rk (M3 73) (n + 1) ≤ rk s (n + 1) := by
          have s0 := hs n (by omega) (by omega)
          simp only [rk] at q1 ⊢
          rw [en3, g3n]
          by_cases c : rk (M 73) n < rk s n
          · omega
          · have c2 : rk (M 73) n = rk s n := by
              have := ds n (by omega) (by omega)
              omega
            have c3 : l ≤ s n := by
              by_cases c4 : l ≤ s n
              · exact c4
              · exact absurd s0.2.2 (hl7.2.2.2 (s n) (by omega) (by omega))
            omega
        have := rk_le (s := M3 73) (t := s) (b := n + 1) q2 (8 - (n + 1)) (fun i a b => by
          have w := hs i (by omega) (by omega)
          rw [k3, up1_n _ _ (by push_cast at a; omega)]
          exact (h3 i (by push_cast at a ⊢; omega) (by omega) (s i) w.1 w.2.1 w.2.2).1)
        rw [show n + 1 + (8 - (n + 1)) = 8 by omega] at this
        exact this
theorem ok_turns {d : Nat} {M : Mem} (h : TC M) : gOk mX7_turns (d + 1) [vR 47] M (TO M) := by
  refine gOk_of mX7_turns_ok (by simp) (Nat.le_of_ble_eq_true rfl) ?_
  repeat (refine gV_s rfl (by first | exact trivial | omega) ?_)
  exact turn_loop h 8 M none (by omega) h (fun _ _ _ => rfl) (fun _ _ _ => rfl) (fun j a b => by omega)
end
section
/-! The reference: least. -/
theorem rk_bd {t : Int → Int} (h : dig t) : ∀ n : Nat, n ≤ 8 → 0 ≤ rk t n ∧ rk t n + 1 ≤ 4 ^ n
  | 0, _ => by simp [rk]
  | n + 1, hn => by
    have ih := rk_bd h n (by omega)
    have hd := h n (by omega) (by omega)
    simp only [rk]
    rw [Int.pow_succ]
    omega
theorem rk_8 {t : Int → Int} (h : dig t) : 0 ≤ rk t 8 ∧ rk t 8 ≤ 65535 := by
  have := rk_bd h 8 (by omega)
  have e : (4 : Int) ^ 8 = 65536 := by decide
  omega
def LsC (S M M' : Mem) : Prop := M' 48 = S 7 ∧ M' 50 = S 9 ∧ M' 52 = S 19 ∧ M' 47 1 = S 1 0 ∧ (∀ i : Int, 0 ≤ i → i < 8 → M' 72 i = rates S i) ∧ (∀ r, r ≠ 47 → r < 70 → M' r = M r) ∧ (∀ i, i ≠ 31 → M' 47 i = M 47 i)
def LsP (S M : Mem) (k : Int) : PV → Mem → Prop := fun r M' => (∀ r, r ≠ 47 → r < 70 → M' r = M r) ∧ (∀ i, i ≠ 31 → M' 47 i = M 47 i) ∧ ∃ v, r = vI v ∧ lsA S k v (M' 47 31) (M' 70)
theorem cnt_loop {d : Nat} {M' : Mem} {k best : Int} {P : PV → Mem → Prop} (ht : ∀ j : Int, 0 ≤ j → j < 8 → 0 ≤ M' 73 j ∧ M' 73 j ≤ 3) (ho : ∀ j, -6 ≤ M' 52 j ∧ M' 52 j < 4)
    (kk : gV mX7_least d P 178 [vR 47, vI k, vI best, vI 1, vI (mvN (M' 52) (M' 73) 8), vI (8 : Nat)] [] M') :
    ∀ (n j : Nat), j + n = 8 → gV mX7_least d P 142 [vR 47, vI k, vI best, vI 1, vI (mvN (M' 52) (M' 73) j), vI j] [vI 8, vI j] M'
  | 0, j, hj => by
    have e : j = 8 := by omega
    subst e
    exact gV_it rfl (by unfold rng; omega) (by omega) kk
  | n + 1, j, hj => by
    have ih := cnt_loop ht ho kk n (j + 1) (by omega)
    have h1 := ht j (by omega) (by omega)
    have h2 := ho j
    unfold mvN at ih ⊢
    rw [ct_s _ j] at ih
    refine gV_in rfl (by unfold rng; omega) (by omega) ?_
    repeat (refine gV_s rfl (by first | exact trivial | omega) ?_)
    refine gV_i rfl (by unfold rng; omega) (fun h3 => ?_) (fun h3 => ?_)
    · rw [if_neg (by simp [h3]), Int.add_zero] at ih
      repeat (refine gV_s rfl (by first | exact trivial | omega) ?_)
      rw [Int.add_zero]
      exact ih
    · rw [if_pos (by simp [h3])] at ih
      repeat (refine gV_s rfl (by first | exact trivial | omega) ?_)
      exact ih
theorem cpy_loop {d : Nat} {M' : Mem} {k best z4 : Int} {P : PV → Mem → Prop} (kk : ∀ M2 : Mem, (∀ r, r ≠ 70 → M2 r = M' r) → (∀ i, M2 70 i = if 0 ≤ i ∧ i < 8 then M' 73 i else M' 70 i) → gV mX7_least d P 229 [vR 47, vI k, vI best, vI 1, vI z4, vI (8 : Nat)] [] M2) :
    ∀ (n j : Nat) (M2 : Mem), j + n = 8 → (∀ r, r ≠ 70 → M2 r = M' r) → (∀ i, M2 70 i = if 0 ≤ i ∧ i < j then M' 73 i else M' 70 i) → gV mX7_least d P 206 [vR 47, vI k, vI best, vI 1, vI z4, vI j] [vI 8, vI j] M2
  | 0, j, M2, hj, h1, h2 => by
    have e : j = 8 := by omega
    subst e
    exact gV_it rfl (by unfold rng; omega) (by omega) (kk M2 h1 h2)
  | n + 1, j, M2, hj, h1, h2 => by
    refine gV_in rfl (by unfold rng; omega) (by omega) ?_
    repeat (refine gV_s rfl (by first | exact trivial | omega) ?_)
    refine cpy_loop kk n (j + 1) _ (by omega) (fun r a => by rw [mw_rn _ _ _ a]; exact h1 r a) (fun i => ?_)
    rw [mw_rs, up1_e, h1 73 (by decide)]
    by_cases e : i = j
    · rw [if_pos e, if_pos (by push_cast; omega), e]
    · rw [if_neg e, h2 i]
      by_cases c : 0 ≤ i ∧ i < j
      · rw [if_pos c, if_pos (by push_cast; omega)]
      · rw [if_neg c, if_neg (by push_cast; omega)]
theorem evn_cong {A W k L : Int} {sp up w s t : Int → Int} (h : ∀ b : Int, 0 ≤ b → b < 8 → s b = t b) : evn A W k sp up L w s ↔ evn A W k sp up L w t := by
  unfold evn
  have : ∀ l, ldN w s l 8 = ldN w t l 8 := fun l => ldN_cong (fun b b0 b1 => h b b0 (by omega))
  simp only [this]
theorem least_main {d : Nat} {S M : Mem} {k : Int} (h : NI S) (hu : anyUp S) (hk : 0 ≤ k ∧ k ≤ 1000) : ∀ (N : Nat) (M' : Mem) (best : Int) (z4 z5 : PV), (65536 - rk (M' 73) 8).toNat ≤ N → LsC S M M' → TC M' → (best = -6 ∨ (0 ≤ best ∧ best ≤ 8)) → Imp (Ev0 S k) (fun s => Qa (S 9) (S 1 0) s ∧ rk s 8 < rk (M' 73) 8) (Mv S) 9 (S 6 0) (S 43) (if best < 0 then 9 else best) (M' 47 31) (M' 70) →
    gV mX7_least (d + 2) (LsP S M k) 129 [vR 47, vI k, vI best, vI 1, z4, z5] [vI 1] M' := by
  have hL := h.1.1
  intro N
  induction N with
  | zero =>
    intro M' best z4 z5 hN hC hT hb hI
    have := rk_8 (vld_dig hT.1.2 hT.2.2.1)
    omega
  | succ N ih =>
    intro M' best z4 z5 hN hC hT hb hI
    obtain ⟨c48, c50, c52, c47, c72, cf, c47'⟩ := id hC
    obtain ⟨tL, tu, tv, tl⟩ := id hT
    have hdig := vld_dig tL.2 tv
    have hrk := rk_8 hdig
    have hvS : vld (S 9) (S 1 0) (M' 73) 8 := by rw [← c50, ← c47]; exact tv
    have same : ∀ s, Qa (S 9) (S 1 0) s → rk s 8 = rk (M' 73) 8 → ∀ b : Int, 0 ≤ b → b < 8 → s b = M' 73 b := fun s hs he b b0 b8 => rk_inj (vld_dig hL.2 hs) hdig 8 (by omega) he b b0 (by omega)
    have hsame : ∀ s, Qa (S 9) (S 1 0) s → rk s 8 = rk (M' 73) 8 → Mv S s = mvN (S 19) (M' 73) 8 := fun s hs he => mvN_cong (fun b b0 b1 => same s hs he b b0 (by omega))
    have hmv : 0 ≤ mvN (S 19) (M' 73) 8 ∧ mvN (S 19) (M' 73) 8 ≤ 8 := by
      have := ct_nn (fun b => decide (M' 73 b ≠ S 19 b)) 8
      unfold mvN
      omega
    have tail : ∀ (M2 : Mem) (best' : Int) (z4 z5 : PV), LsC S M M2 → TC M2 → M2 73 = M' 73 → (best' = -6 ∨ (0 ≤ best' ∧ best' ≤ 8)) → Imp (Ev0 S k) (fun s => Qa (S 9) (S 1 0) s ∧ rk s 8 = rk (M' 73) 8) (Mv S) (if best < 0 then 9 else best) (M' 47 31) (M' 70) (if best' < 0 then 9 else best') (M2 47 31) (M2 70) → gV mX7_least (d + 2) (LsP S M k) 234 [vR 47, vI k, vI best', vI 1, z4, z5] [] M2 := by
      intro M2 best' z4 z5 hC2 hT2 e73 hb2 hI2
      have hI3 := Imp_tr hI hI2 (fun s1 s2 a1 a2 => by have := a1.2; have := a2.2; omega)
      obtain ⟨k48, k50, k52, k47, k72, kf, k47'⟩ := id hC2
      repeat (refine gV_s rfl (by first | exact trivial | omega) ?_)
      refine gV_cV (ok_turns (d := d) hT2) mX7_turns_ok sX7_X7_turns rfl rfl rfl rfl rfl rfl ?_
      rintro r M3 ⟨g1, ⟨rfl, g2, g3, g4⟩ | ⟨rfl, g3⟩⟩
      · rw [e73] at g3 g4
        rw [k50, k47] at g4
        repeat (refine gV_s rfl (by first | exact trivial | omega) ?_)
        have e47 : M3 47 = M2 47 := g1 47 (by decide) (by decide)
        have e70 : M3 70 = M2 70 := g1 70 (by decide) (by decide)
        refine ih M3 best' _ _ (by omega) ⟨by rw [g1 48 (by decide) (by decide)]; exact k48, by rw [g1 50 (by decide) (by decide)]; exact k50, by rw [g1 52 (by decide) (by decide)]; exact k52, by rw [e47]; exact k47, by rw [g1 72 (by decide) (by decide)]; exact k72, fun r a b => by rw [g1 r (by omega) (by omega)]; exact kf r a b, by rw [e47]; exact k47'⟩ g2 hb2 ?_
        rw [e47, e70]
        refine Imp_iff (fun s => ?_) hI3
        constructor
        · rintro (a | a)
          · exact ⟨a.1, by have := a.2; omega⟩
          · exact ⟨a.1, by have := a.2; omega⟩
        · rintro ⟨a1, a2⟩
          by_cases c : rk s 8 < rk (M' 73) 8
          · exact Or.inl ⟨a1, c⟩
          · by_cases c2 : rk s 8 = rk (M' 73) 8
            · exact Or.inr ⟨a1, c2⟩
            · have := g4 s a1 (by omega)
              omega
      · rw [e73] at g3
        rw [k50, k47] at g3
        repeat (refine gV_s rfl (by first | exact trivial | omega) ?_)
        refine gV_it rfl (by unfold rng; omega) rfl ?_
        repeat (refine gV_s rfl (by first | exact trivial | omega) ?_)
        have e47 : M3 47 = M2 47 := g1 47 (by decide) (by decide)
        have e70 : M3 70 = M2 70 := g1 70 (by decide) (by decide)
        refine gV_ret rfl trivial ⟨fun r a b => by rw [g1 r (by omega) (by omega)]; exact kf r a b, by rw [e47]; exact k47', best', rfl, Or.inr (Or.inr ⟨hk, hu, if best' < 0 then 9 else best', ?_, ?_⟩)⟩
        · rw [e47, e70]
          refine Imp_iff (fun s => ?_) hI3
          constructor
          · rintro (a | a)
            · exact a.1
            · exact a.1
          · intro a
            have := g3 s a
            by_cases c : rk s 8 < rk (M' 73) 8
            · exact Or.inl ⟨a, c⟩
            · exact Or.inr ⟨a, by omega⟩
        · rcases hb2 with q | q
          · rw [q]; rfl
          · rw [if_neg (show ¬ best' < 0 by omega), if_pos (show best' ≤ 8 by omega)]
    have hld : ∀ l : Int, 0 ≤ l → l < 4 → M' 71 l = ldN (rates S) (M' 73) l 8 := fun l a b => by rw [tl l a b]; exact ldN_congw (fun i i0 i1 => c72 i i0 (by omega))
    have hw := sW_bd h
    have hEC : EC M' := by
      refine ⟨tL, tu, fun l => ?_, fun l a b => ?_⟩
      · rw [c48]; have := h.2.1.2.2 l; omega
      · rw [hld l a (by omega)]
        have := ldN_le (w := rates S) (t := M' 73) (l := l) (fun i _ _ => (rates_bd h i).1) 8 (by omega)
        have h2 : ldN (rates S) (M' 73) l 8 ≤ sW S := this.2
        omega
    have euS : sm (uS M') (M' 47 1).toNat = sA S := by
      unfold sA
      rw [c47]
      exact sm_cong (fun j _ _ => by unfold uS upSp; rw [c50, c48])
    have euL : sm (uL M') (M' 47 1).toNat = sW S := by
      have := ld_all (up := S 9) (w := rates S) (t := M' 73) (L := (S 1 0).toNat) 8 (fun b b0 b1 => by
        have := hvS b b0 (by omega)
        exact ⟨this.1, by omega, this.2.2⟩)
      unfold sW
      rw [← this, c47]
      exact sm_cong (fun j a b => by unfold uL; rw [c50, hld j a (by omega)])
    have hiff : (∀ l : Int, 0 ≤ l → l < M' 47 1 → evP M' k l) ↔ Ev0 S k (M' 73) := by
      unfold evP Ev0 evn wth
      rw [euS, euL, c47, c50, c48]
      constructor
      · intro q l a b c
        have := q l a b c
        rw [hld l a (by omega)] at this
        exact this
      · intro q l a b c
        rw [hld l a (by omega)]
        exact q l a b c
    have skip : (∀ s, (Qa (S 9) (S 1 0) s ∧ rk s 8 = rk (M' 73) 8) → Ev0 S k s → (if best < 0 then 9 else best) ≤ Mv S s) → ∀ z4 z5 : PV, gV mX7_least (d + 2) (LsP S M k) 234 [vR 47, vI k, vI best, vI 1, z4, z5] [] M' := fun hno z4 z5 => tail M' best z4 z5 hC hT rfl hb (Imp_no hno)
    have look : mvN (S 19) (M' 73) 8 < (if best < 0 then 9 else best) → gV mX7_least (d + 2) (LsP S M k) 188 [vR 47, vI k, vI best, vI 1, vI (mvN (S 19) (M' 73) 8), vI (8 : Nat)] [] M' := by
      intro hlt
      repeat (refine gV_s rfl (by first | exact trivial | omega) ?_)
      refine gV_cV (ok_isEvenM (d := d + 1) (M := M') hEC hk) mX7_isEven_ok sX7_X7_isEven rfl rfl rfl rfl rfl rfl ?_
      rintro r M2 ⟨rfl, ⟨h5, rfl⟩ | ⟨h5, rfl⟩⟩
      · refine gV_in rfl (by unfold rng; omega) (by omega) ?_
        repeat (refine gV_s rfl (by first | exact trivial | omega) ?_)
        refine cpy_loop (M' := M2) (fun M3 e1 e2 => ?_) 8 0 M2 rfl (fun _ _ => rfl) (fun i => by rw [if_neg (by omega)])
        have em : ∀ r, r ≠ 47 → mw M3 47 31 1 r = M3 r := fun r a => mw_rn _ _ _ a
        have em47 : ∀ i, i ≠ 31 → mw M3 47 31 1 47 i = M2 47 i := fun i a => by rw [mw_rs, up1_n _ _ a, e1 47 (by decide)]
        refine gV_s rfl trivial (gV_s rfl trivial (gV_s rfl (Or.inr rfl) ?_))
        refine tail (mw M3 47 31 1) _ _ _ ⟨by rw [em 48 (by decide), e1 48 (by decide)]; exact c48, by rw [em 50 (by decide), e1 50 (by decide)]; exact c50, by rw [em 52 (by decide), e1 52 (by decide)]; exact c52, by rw [em47 1 (by decide)]; exact c47, by rw [em 72 (by decide), e1 72 (by decide)]; exact c72, fun r a b => by rw [em r a, e1 r (by omega)]; exact cf r a b, fun i a => by rw [em47 i a]; exact c47' i a⟩ ⟨by rw [em47 1 (by decide)]; exact tL, by rw [em 50 (by decide), e1 50 (by decide)]; exact tu, by rw [em47 1 (by decide), em 50 (by decide), e1 50 (by decide), em 73 (by decide), e1 73 (by decide)]; exact tv, by rw [em 71 (by decide), e1 71 (by decide), em 72 (by decide), e1 72 (by decide), em 73 (by decide), e1 73 (by decide)]; exact tl⟩ (by rw [em 73 (by decide), e1 73 (by decide)]) (Or.inr hmv) ?_
        rw [if_neg (show ¬ mvN (S 19) (M2 73) 8 < 0 by omega)]
        refine Or.inr ⟨hlt, by rw [mw_rs, up1_s], M2 73, ⟨hvS, rfl⟩, hiff.mp h5, rfl, fun j => by rw [em 70 (by decide)]; exact e2 j, fun s hs _ => Or.inr ⟨(hsame s hs.1 hs.2).symm, Int.le_of_eq hs.2.symm⟩⟩
      · refine gV_it rfl (by unfold rng; omega) rfl ?_
        refine skip (fun s hs he => absurd (hiff.mpr ?_) h5) _ _
        unfold Ev0 at he ⊢
        exact (evn_cong (fun b b0 b8 => same s hs.1 hs.2 b b0 b8)).mp he
    refine gV_in rfl (by unfold rng; omega) (by omega) ?_
    repeat (refine gV_s rfl (by first | exact trivial | omega) ?_)
    have on52 : ∀ j, -6 ≤ M' 52 j ∧ M' 52 j < 4 := fun j => by rw [c52]; exact (AI_bk h j).1
    refine cnt_loop (d := d + 2) (M' := M') (k := k) (best := best) (P := LsP S M k) (fun j a b => hdig j a b) on52 ?_ 8 0 rfl
    rw [c52]
    repeat (refine gV_s rfl (by first | exact trivial | omega) ?_)
    refine gV_i rfl (by unfold rng; omega) (fun h1 => ?_) (fun h1 => ?_)
    · exact look (by rw [if_pos h1]; omega)
    · repeat (refine gV_s rfl (by first | exact trivial | omega) ?_)
      refine gV_i rfl (by unfold rng; omega) (fun h2 => ?_) (fun h2 => ?_)
      · refine skip (fun s hs _ => ?_) _ _
        rw [if_neg h1, hsame s hs.1 hs.2]
        exact h2
      · exact look (by rw [if_neg h1]; omega)
end
section
/-! The reference: least, from its start. -/
theorem ldN_new {w t : Int → Int} {j : Nat} {r u l : Int} : ldN (up1 w j r) (up1 t j u) l (j + 1) = ldN w t l j + (if u = l then r else 0) := by
  unfold ldN
  rw [sm_s, sm_cong (g := fun b => if t b = l then w b else 0) (fun b a c => by rw [up1_n _ _ (by omega), up1_n _ _ (by omega)]), up1_s, up1_s]
theorem z_loop {d : Nat} {M : Mem} {k : Int} {P : PV → Mem → Prop} (kk : ∀ (M' : Mem) (z : Int), (∀ r, r ≠ 71 → M' r = M r) → (∀ l : Int, 0 ≤ l → l < 4 → M' 71 l = 0) → gV mX7_least d P 44 [vR 47, vI k, vI z, none, none, none] [] M') :
    ∀ (n j : Nat) (M' : Mem), j + n = 4 → (∀ r, r ≠ 71 → M' r = M r) → (∀ l : Int, 0 ≤ l → l < j → M' 71 l = 0) → gV mX7_least d P 28 [vR 47, vI k, vI j, none, none, none] [vI 4, vI j] M'
  | 0, j, M', hj, h1, h2 => by
    have e : j = 4 := by omega
    subst e
    exact gV_it rfl (by unfold rng; omega) (by omega) (kk M' _ h1 (fun l a b => h2 l a (by omega)))
  | n + 1, j, M', hj, h1, h2 => by
    refine gV_in rfl (by unfold rng; omega) (by omega) ?_
    repeat (refine gV_s rfl (by first | exact trivial | omega) ?_)
    refine z_loop kk n (j + 1) _ (by omega) (fun r a => by rw [mw_rn _ _ _ a]; exact h1 r a) (fun l a b => ?_)
    rw [mw_rs, up1_e]
    split
    · rfl
    · exact h2 l a (by push_cast at b; omega)
theorem b_loop {d : Nat} {S M : Mem} {k B : Int} {P : PV → Mem → Prop} (h : NI S) (hu : anyUp S) (hR : RM S M B) (hB : B ≤ 2000000000)
    (kk : ∀ (M' : Mem) (z : Int), (∀ r, r ≠ 71 → r ≠ 72 → r ≠ 73 → M' r = M r) → (∀ i : Int, 0 ≤ i → i < 8 → M' 72 i = rates S i ∧ (0 ≤ M' 73 i ∧ M' 73 i < S 1 0 ∧ S 9 (M' 73 i) = 1) ∧ ∀ l, 0 ≤ l → l < M' 73 i → S 9 l ≠ 1) → (∀ l : Int, 0 ≤ l → l < 4 → M' 71 l = ldN (M' 72) (M' 73) l 8) → gV mX7_least (d + 2) P 123 [vR 47, vI k, vI z, none, none, none] [] M') :
    ∀ (n j : Nat) (M' : Mem), j + n = 8 → (∀ r, r ≠ 71 → r ≠ 72 → r ≠ 73 → M' r = M r) → (∀ i : Int, 0 ≤ i → i < j → M' 72 i = rates S i ∧ (0 ≤ M' 73 i ∧ M' 73 i < S 1 0 ∧ S 9 (M' 73 i) = 1) ∧ ∀ l, 0 ≤ l → l < M' 73 i → S 9 l ≠ 1) → (∀ l : Int, 0 ≤ l → l < 4 → M' 71 l = ldN (M' 72) (M' 73) l j) → gV mX7_least (d + 2) P 49 [vR 47, vI k, vI j, none, none, none] [vI 8, vI j] M' := by
  have hL := h.1.1
  intro n
  induction n with
  | zero =>
    intro j M' hj h1 h2 h3
    have e : j = 8 := by omega
    subst e
    exact gV_it rfl (by unfold rng; omega) (by omega) (kk M' _ h1 (fun i a b => h2 i a (by omega)) h3)
  | succ n ih =>
    intro j M' hj h1 h2 h3
    have hR' : RM S M' B := RM_M hR (fun r a b => h1 r (by omega) (by omega) (by omega))
    obtain ⟨o0, o1, o2⟩ := on_vld h hu j (by omega) (by omega)
    have hu1 : ∀ l, S 9 l = 0 ∨ S 9 l = 1 := fun l => by have := h.2.1.2.1 l; omega
    refine gV_in rfl (by unfold rng; omega) (by omega) ?_
    repeat (refine gV_s rfl (by first | exact trivial | omega) ?_)
    refine gV_cV (ok_mRates (d := d) (P := fun r M2 => r = vI (rates S j) ∧ M2 = M') (b := j) h hR' hB (by unfold rng; omega) ⟨rfl, rfl⟩) mX7_rates_ok sX7_X7_rates rfl rfl rfl rfl rfl rfl ?_
    rintro r M2 ⟨rfl, rfl⟩
    have hR2 : RM S (mw M2 72 j (rates S j)) B := RM_M hR' (fun r a b => mw_rn _ _ _ (by omega))
    repeat (refine gV_s rfl (by first | exact trivial | omega) ?_)
    rw [show mw M2 72 j (rates S j) 52 j = S 19 j by rw [hR2.e52]]
    refine gV_in rfl (by unfold rng; omega) (by omega) ?_
    repeat (refine gV_s rfl (by first | exact trivial | omega) ?_)
    refine gV_cV (ok_nextUp (d := d + 1) (M := mw M2 72 j (rates S j)) (a := 0) (by rw [hR2.s1]; exact hL) (by rw [hR2.e50]; exact hu1) (by omega) (by omega)) mX7_nextUp_ok sX7_X7_nextUp rfl rfl rfl rfl rfl rfl ?_
    rintro r M3 ⟨rfl, u, rfl, hu0⟩
    unfold nuP at hu0
    rw [hR2.s1, hR2.e50] at hu0
    have hv : 0 ≤ u ∧ u < S 1 0 ∧ S 9 u = 1 ∧ ∀ l', 0 ≤ l' → l' < u → S 9 l' ≠ 1 := by
      rcases hu0 with q | q
      · exact absurd o2 (q.2 (S 19 j) o0 o1)
      · exact q
    refine gV_s rfl trivial (gV_s rfl (by omega) ?_)
    iterate 4 (refine gV_s rfl (by first | exact trivial | omega) ?_)
    rw [show mw (mw M2 72 j (rates S j)) 73 j u 73 j = u by rw [mw_rs, up1_s]]
    refine gV_in rfl (by unfold rng; omega) (by omega) ?_
    iterate 6 (refine gV_s rfl (by first | exact trivial | omega) ?_)
    rw [show mw (mw M2 72 j (rates S j)) 73 j u 73 j = u by rw [mw_rs, up1_s]]
    repeat (refine gV_s rfl (by first | exact trivial | omega) ?_)
    refine ih (j + 1) _ (by omega) (fun r a b c => ?_) (fun i a b => ?_) (fun l a b => ?_)
    · rw [mw_rn _ _ _ a, mw_rn _ _ _ c, mw_rn _ _ _ b]; exact h1 r a b c
    · simp only [mw_rn, mw_rs, ne_eq, not_false_eq_true, Nat.reduceEqDiff, Nat.reduceLT, Nat.reduceLeDiff, true_or, or_true, forall_const]
      rw [up1_e, up1_e]
      by_cases e : i = j
      · rw [if_pos e, if_pos e, e]
        exact ⟨rfl, ⟨hv.1, hv.2.1, hv.2.2.1⟩, hv.2.2.2⟩
      · rw [if_neg e, if_neg e]
        exact h2 i a (by push_cast at b; omega)
    · simp only [mw_rn, mw_rs, ne_eq, not_false_eq_true, Nat.reduceEqDiff, Nat.reduceLT, Nat.reduceLeDiff, true_or, or_true, forall_const]
      rw [ldN_new, ← h3 l a b, up1_s, up1_e]
      by_cases e : l = u
      · rw [if_pos e, if_pos e.symm, e]
      · rw [if_neg e, if_neg (fun q => e q.symm)]; omega
theorem ok_mLeast {d : Nat} {S M : Mem} {B k : Int} (h : NI S) (hk : rng k) (hR : RM S M B) (hB : B ≤ 2000000000) : gOk mX7_least (d + 2) [vR 47, vI k] M (LsP S M k) := by
  have hMM := MR_of h hR hB
  have hL := h.1.1
  have keep : ∀ v : Int, lsA S k v (S 6 0) (S 43) → LsP S M k (vI v) M := fun v hv => ⟨fun _ _ _ => rfl, fun _ _ => rfl, v, rfl, by rw [hR.s31, hR.e70]; exact hv⟩
  refine gOk_of mX7_least_ok (by simp) (Nat.le_of_ble_eq_true rfl) ?_
  repeat (refine gV_s rfl (by first | exact trivial | omega) ?_)
  refine gV_cS (ok_in (d := d + 1) (M := M) hk (by unfold rng; omega) (by unfold rng; omega)) mX7_in_ok sX7_X7_in rfl rfl rfl rfl ?_
  rintro r M' ⟨rfl, ⟨h1, rfl⟩ | ⟨h1, rfl⟩⟩
  · refine gV_in rfl (by unfold rng; omega) (by omega) ?_
    repeat (refine gV_s rfl (by first | exact trivial | omega) ?_)
    refine gV_cV (ok_noneUp (d := d + 1) (M := M') hMM) mX7_noneUp_ok sX7_X7_noneUp rfl rfl rfl rfl rfl rfl ?_
    rw [hR.s1, hR.e50]
    rintro r M2 ⟨rfl, ⟨h2, rfl⟩ | ⟨h2, rfl⟩⟩
    · refine gV_in rfl (by unfold rng; omega) (by omega) ?_
      repeat (refine gV_s rfl (by first | exact trivial | omega) ?_)
      refine gV_ret rfl trivial (keep (-3) (Or.inr (Or.inl ⟨h1, fun ⟨l, a, b, c⟩ => ?_, rfl, rfl, rfl⟩)))
      have := h2 l a b
      omega
    · have hu : anyUp S := Classical.byContradiction (fun q => h2 (fun l a b => by
        rcases h.2.1.2.1 l with w | w
        · exact w
        · exact absurd ⟨l, a, b, w.1⟩ q))
      refine gV_it rfl (by unfold rng; omega) rfl ?_
      repeat (refine gV_s rfl (by first | exact trivial | omega) ?_)
      refine z_loop (d := d + 2) (M := M2) (k := k) (P := LsP S M2 k) (fun M3 z a1 a2 => ?_) 4 0 M2 rfl (fun _ _ => rfl) (fun l a b => by omega)
      have hR3 : RM S M3 B := RM_M hR (fun r a b => a1 r (by omega))
      repeat (refine gV_s rfl (by first | exact trivial | omega) ?_)
      refine b_loop (d := d) (S := S) (M := M3) (k := k) (B := B) (P := LsP S M2 k) h hu hR3 hB (fun M4 z b1 b2 b3 => ?_) 8 0 M3 rfl (fun _ _ _ _ => rfl) (fun i a b => by omega) (fun l a b => by rw [a2 l a b]; rfl)
      have hR4 : RM S M4 B := RM_M hR3 (fun r a b => b1 r (by omega) (by omega) (by omega))
      have hr : ∀ r, r < 71 → M4 r = M2 r := fun r a => by rw [b1 r (by omega) (by omega) (by omega), a1 r (by omega)]
      have hv : vld (S 9) (S 1 0) (M4 73) 8 := fun b b0 b8 => (b2 b b0 (by omega)).2.1
      repeat (refine gV_s rfl (by first | exact trivial | omega) ?_)
      refine least_main (d := d) (S := S) (M := M2) h hu h1 65536 M4 (-6) none none (by have := rk_8 (vld_dig hL.2 hv); omega) ⟨hR4.e48, hR4.e50, hR4.e52, hR4.s1, fun i a b => (b2 i a b).1, fun r a b => hr r (by omega), fun i a => by rw [hr 47 (by decide)]⟩ ⟨by rw [hR4.s1]; exact hL, by rw [hR4.e50]; exact fun l => by have := h.2.1.2.1 l; omega, by rw [hR4.e50, hR4.s1]; exact hv, b3⟩ (Or.inl rfl) ?_
      rw [if_pos (by decide), hR4.s31, hR4.e70]
      refine Imp_no (fun s hs _ => ?_)
      have := rk_le (s := M4 73) (t := s) (b := 0) (Int.le_refl _) 8 (fun i a b => by
        have w := hs.1 i (by omega) (by omega)
        have w2 := (b2 i (by omega) (by omega)).2.2 (s i) w.1
        by_cases c : M4 73 i ≤ s i
        · exact c
        · exact absurd w.2.2 (w2 (by omega)))
      have h9 : rk (M4 73) 8 ≤ rk s 8 := this
      have := hs.2
      omega
  · refine gV_it rfl (by unfold rng; omega) rfl ?_
    repeat (refine gV_s rfl (by first | exact trivial | omega) ?_)
    exact gV_ret rfl trivial (keep (-2) (Or.inl ⟨h1, rfl, rfl, rfl⟩))
end
section
/-! What each operation keeps. -/
theorem AI_fr {S T : Mem} {lo : Int → Int} {x : Int} (h : AI S lo x) (hr : ∀ r, r < 47 → T r = S r) : AI T lo x := AI_pl h (fun r _ b => hr r (by omega)) (by rw [hr 6 (by decide)]; exact h.1.2.2.2.2.2.2.2)
theorem NI_fr {S T : Mem} (h : NI S) (hr : ∀ r, r < 47 → T r = S r) : NI T := by
  unfold NI
  rw [hr 5 (by decide)]
  exact AI_fr h hr
theorem lastP_none {out fl pl : Int → Int} {f : Int} : ∀ n : Nat, (∀ k : Int, 0 ≤ k → k < n → fl (out k) ≠ f) → lastP out fl pl f n = -6 ∧ mixP out fl pl f n = false
  | 0, _ => ⟨rfl, rfl⟩
  | n + 1, h => by
    obtain ⟨a, b⟩ := lastP_none (out := out) (fl := fl) (pl := pl) (f := f) n (fun k k0 k1 => h k k0 (by omega))
    have c := h n (by omega) (by omega)
    unfold lastP mixP
    rw [if_neg c, b]
    exact ⟨a, by simp [c]⟩
theorem NI_flow {S : Mem} {r : Int} (h : NI S) (hF : S 3 0 < 16) (hr : 0 ≤ r ∧ r ≤ 100) : NI (aFlow S r) := by
  have eo : ∀ q, q ≠ 24 → q ≠ 25 → q ≠ 29 → q ≠ 3 → aFlow S r q = S q := fun q a b c d => by unfold aFlow; rw [mw_rn _ _ _ d, mw_rn _ _ _ c, mw_rn _ _ _ b, mw_rn _ _ _ a]
  have e24 : aFlow S r 24 = up1 (S 24) (S 3 0) r := by unfold aFlow; simp only [mw_rs, mw_rn, ne_eq, not_false_eq_true, Nat.reduceEqDiff, Nat.reduceLT, Nat.reduceLeDiff, true_or, or_true, forall_const]
  have e25 : aFlow S r 25 = up1 (S 25) (S 3 0) (-1) := by unfold aFlow; simp only [mw_rs, mw_rn, ne_eq, not_false_eq_true, Nat.reduceEqDiff, Nat.reduceLT, Nat.reduceLeDiff, true_or, or_true, forall_const]
  have e29 : aFlow S r 29 = up1 (S 29) (S 3 0) (-6) := by unfold aFlow; simp only [mw_rs, mw_rn, ne_eq, not_false_eq_true, Nat.reduceEqDiff, Nat.reduceLT, Nat.reduceLeDiff, true_or, or_true, forall_const]
  have e30 : aFlow S r 3 0 = S 3 0 + 1 := by unfold aFlow; rw [mw_rs, up1_s]
  have e31 : aFlow S r 3 1 = S 3 1 := by unfold aFlow; rw [mw_rs, up1_n _ _ (by decide)]; simp only [mw_rn, ne_eq, not_false_eq_true, Nat.reduceEqDiff, Nat.reduceLT, Nat.reduceLeDiff, true_or, or_true, forall_const]
  have e32 : aFlow S r 3 2 = S 3 2 := by unfold aFlow; rw [mw_rs, up1_n _ _ (by decide)]; simp only [mw_rn, ne_eq, not_false_eq_true, Nat.reduceEqDiff, Nat.reduceLT, Nat.reduceLeDiff, true_or, or_true, forall_const]
  have eq : ∀ l' p, 0 ≤ l' → l' < 4 → qr (aFlow S r) l' p = qr S l' p := fun l' p a b => by
    show aFlow S r (11 + l'.toNat) p = _
    rw [eo _ (by omega) (by omega) (by omega) (by omega)]
  obtain ⟨ha, hl, hb, hn, hh, hf, ht, ks, kh, kf, kl, hq, hi, ho⟩ := h
  refine NI_of (S := S) ?_ (eo 5 (by decide) (by decide) (by decide) (by decide))
  unfold AI Ja
  simp only [eo, e24, e25, e29, e30, e31, e32, ne_eq, not_false_eq_true, Nat.reduceEqDiff, Nat.reduceLT, Nat.reduceLeDiff, true_or, or_true, forall_const]
  have h3 := ha.2.1
  refine ⟨⟨ha.1, ⟨by omega, by omega⟩, ha.2.2⟩, hl, hb, hn, hh, ?_, ?_, ks, kh, kf, kl, Jq_rw hq eq, Ji_rw hi ha.1.2 eq, ?_⟩
  · intro f
    have := hf f
    rw [up1_e, up1_e]
    split
    · omega
    · exact this
  · intro i
    have := ht i
    exact ⟨⟨this.1.1, this.1.2.1, fun a b => by have := this.1.2.2 a b; omega⟩, this.2⟩
  · obtain ⟨o1, o2, o3, o4⟩ := ho
    refine ⟨o1, fun f f0 f1 => ?_, fun f => ?_, fun f hf => o4 f (by omega)⟩
    · by_cases e : f = S 3 0
      · subst e
        obtain ⟨n1, n2⟩ := lastP_none (out := S 40) (fl := S 31) (pl := S 32) (f := S 3 0) (S 41 4).toNat (fun k k0 k1 => by
          have w := o1 k k0 (by omega)
          have := (ht (S 40 k)).1.2.2 w.1 w.2
          omega)
        rw [up1_s, n1, n2, o4 _ (Int.le_refl _)]
        exact ⟨rfl, rfl⟩
      · rw [up1_n _ _ e]
        exact o2 f f0 (by omega)
    · rw [up1_e]
      split
      · omega
      · exact o3 f
theorem NI_rate {S : Mem} {f r : Int} (h : NI S) (hr : 0 ≤ r ∧ r ≤ 100) : NI (mw S 24 f r) := by
  have eo : ∀ q, q ≠ 24 → mw S 24 f r q = S q := fun q a => mw_rn _ _ _ a
  have eq : ∀ l' p, 0 ≤ l' → l' < 4 → qr (mw S 24 f r) l' p = qr S l' p := fun l' p a b => mwq (by omega) _ _ a b
  obtain ⟨ha, hl, hb, hn, hh, hf, ht, ks, kh, kf, kl, hq, hi, ho⟩ := h
  refine NI_of (S := S) ?_ (eo 5 (by decide))
  unfold AI Ja
  simp only [eo, mw_rs, ne_eq, not_false_eq_true, Nat.reduceEqDiff, Nat.reduceLT, Nat.reduceLeDiff, true_or, or_true, forall_const]
  refine ⟨ha, hl, hb, hn, hh, ?_, ht, ks, kh, kf, kl, Jq_rw hq eq, Ji_rw hi ha.1.2 eq, ho⟩
  intro g
  have := hf g
  rw [up1_e]
  split
  · omega
  · exact this
theorem NI_pin {S : Mem} {f b : Int} (h : NI S) (hr : -1 ≤ b ∧ b < 8) : NI (mw S 25 f b) := by
  have eo : ∀ q, q ≠ 25 → mw S 25 f b q = S q := fun q a => mw_rn _ _ _ a
  have eq : ∀ l' p, 0 ≤ l' → l' < 4 → qr (mw S 25 f b) l' p = qr S l' p := fun l' p a c => mwq (by omega) _ _ a c
  obtain ⟨ha, hl, hb, hn, hh, hf, ht, ks, kh, kf, kl, hq, hi, ho⟩ := h
  refine NI_of (S := S) ?_ (eo 5 (by decide))
  unfold AI Ja
  simp only [eo, mw_rs, ne_eq, not_false_eq_true, Nat.reduceEqDiff, Nat.reduceLT, Nat.reduceLeDiff, true_or, or_true, forall_const]
  refine ⟨ha, hl, hb, hn, hh, ?_, ht, ks, kh, kf, kl, Jq_rw hq eq, Ji_rw hi ha.1.2 eq, ho⟩
  intro g
  have := hf g
  rw [up1_e]
  split
  · omega
  · exact this
theorem NI_hash {S : Mem} {a c : Int} (h : NI S) (ha0 : 0 ≤ a ∧ a ≤ 7) (hc0 : 0 ≤ c ∧ c ≤ 7) : NI (mw (mw S 3 1 a) 3 2 c) := by
  have eo : ∀ q, q ≠ 3 → mw (mw S 3 1 a) 3 2 c q = S q := fun q w => by rw [mw_rn _ _ _ w, mw_rn _ _ _ w]
  have e0 : mw (mw S 3 1 a) 3 2 c 3 0 = S 3 0 := by rw [mw_rs, up1_n _ _ (by decide), mw_rs, up1_n _ _ (by decide)]
  have e1 : mw (mw S 3 1 a) 3 2 c 3 1 = a := by rw [mw_rs, up1_n _ _ (by decide), mw_rs, up1_s]
  have e2 : mw (mw S 3 1 a) 3 2 c 3 2 = c := by rw [mw_rs, up1_s]
  have eq : ∀ l' p, 0 ≤ l' → l' < 4 → qr (mw (mw S 3 1 a) 3 2 c) l' p = qr S l' p := fun l' p x y => by
    show mw (mw S 3 1 a) 3 2 c (11 + l'.toNat) p = _
    rw [eo _ (by omega)]
  obtain ⟨ha, hl, hb, hn, hh, hf, ht, ks, kh, kf, kl, hq, hi, ho⟩ := h
  refine NI_of (S := S) ?_ (eo 5 (by decide))
  unfold AI Ja
  simp only [eo, e0, e1, e2, ne_eq, not_false_eq_true, Nat.reduceEqDiff, Nat.reduceLT, Nat.reduceLeDiff, true_or, or_true, forall_const]
  exact ⟨⟨ha.1, ha.2.1, ha.2.2.1, ha.2.2.2.1, ha.2.2.2.2.1, ha0, hc0, ha.2.2.2.2.2.2.2⟩, hl, hb, hn, hh, hf, ht, ks, kh, kf, kl, Jq_rw hq eq, Ji_rw hi ha.1.2 eq, ho⟩
theorem NI_numbers {S : Mem} {v : Int} (h : NI S) (hv : v = 0 ∨ v = 1) : NI (mw S 5 1 v) := by
  have eo : ∀ q, q ≠ 5 → mw S 5 1 v q = S q := fun q w => mw_rn _ _ _ w
  have e0 : mw S 5 1 v 5 0 = S 5 0 := by rw [mw_rs, up1_n _ _ (by decide)]
  have e1 : mw S 5 1 v 5 1 = v := by rw [mw_rs, up1_s]
  have eq : ∀ l' p, 0 ≤ l' → l' < 4 → qr (mw S 5 1 v) l' p = qr S l' p := fun l' p a c => mwq (by omega) _ _ a c
  obtain ⟨ha, hl, hb, hn, hh, hf, ht, ks, kh, kf, kl, hq, hi, ho⟩ := h
  unfold NI AI Ja
  simp only [eo, e0, e1, ne_eq, not_false_eq_true, Nat.reduceEqDiff, Nat.reduceLT, Nat.reduceLeDiff, true_or, or_true, forall_const]
  exact ⟨⟨ha.1, ha.2.1, ha.2.2.1, ha.2.2.2.1, hv, ha.2.2.2.2.2⟩, hl, hb, hn, hh, hf, ht, ks, kh, kf, kl, Jq_rw hq eq, Ji_rw hi ha.1.2 eq, ho⟩
/-- an operation: what holds after it -/
def kp (S : Mem) (o : Int × Mem) : Prop := NI o.2 ∧ (∀ r, 45 ≤ r → o.2 r = S r) ∧ o.2 5 0 ≤ S 5 0 + 500
theorem kp_same {S : Mem} {v : Int} (h : NI S) : kp S (v, S) := ⟨h, fun _ _ => rfl, by show S 5 0 ≤ S 5 0 + 500; omega⟩
theorem kp_link {S : Mem} {s d : Int} (h : NI S) : kp S (oLink S s d) := by
  have hL := h.1.1
  unfold oLink
  split
  · rename_i c
    split
    · exact kp_same h
    · have ho : ∀ r, r = 5 ∨ 45 ≤ r → aLink S s d r = S r := fun r hr => by
        unfold aLink
        rw [aTake_o _ (by omega) (by omega) (by omega) (by omega) (by omega) (by omega) (by omega) (by omega) (by omega) (by omega)]
        unfold aLink0
        rw [mw_rn _ _ _ (by omega), mw_rn _ _ _ (by omega), mw_rn _ _ _ (by omega), mw_rn _ _ _ (by omega)]
      refine ⟨NI_link h (by omega) c.1 c.2, fun r hr => ho r (Or.inr hr), ?_⟩
      show aLink S s d 5 0 ≤ _
      rw [ho 5 (Or.inl rfl)]; omega
  · exact kp_same h
theorem kp_flow {S : Mem} {x : Int} (h : NI S) : kp S (oFlow S x) := by
  unfold oFlow
  split
  · rename_i c
    split
    · exact kp_same h
    · have ho : ∀ r, r = 5 ∨ 45 ≤ r → aFlow S x r = S r := fun r hr => by
        unfold aFlow
        rw [mw_rn _ _ _ (by omega), mw_rn _ _ _ (by omega), mw_rn _ _ _ (by omega), mw_rn _ _ _ (by omega)]
      refine ⟨NI_flow h (by omega) c, fun r hr => ho r (Or.inr hr), ?_⟩
      show aFlow S x 5 0 ≤ _
      rw [ho 5 (Or.inl rfl)]; omega
  · exact kp_same h
theorem kp_mw {S : Mem} {v i w : Int} {q : Nat} (h : NI (mw S q i w)) (hq : q < 45) (h5 : q ≠ 5 ∨ i ≠ 0) : kp S (v, mw S q i w) := by
  refine ⟨h, fun r hr => mw_rn _ _ _ (by omega), ?_⟩
  show mw S q i w 5 0 ≤ _
  by_cases e : q = 5
  · subst e
    rw [mw_rs, up1_n _ _ (by omega)]; omega
  · rw [mw_rn _ _ _ (fun z => e z.symm)]; omega
theorem kp_rate {S : Mem} {f x : Int} (h : NI S) : kp S (oRate S f x) := by
  unfold oRate
  split
  · split
    · rename_i c; exact kp_mw (NI_rate h c) (by decide) (Or.inl (by decide))
    · exact kp_same h
  · exact kp_same h
theorem kp_pin {S : Mem} {f b : Int} (h : NI S) : kp S (oPin S f b) := by
  unfold oPin
  split
  · split
    · rename_i c
      split
      · exact kp_same h
      · exact kp_mw (NI_pin h c) (by decide) (Or.inl (by decide))
    · exact kp_same h
  · exact kp_same h
theorem kp_hash {S : Mem} {a c : Int} (h : NI S) : kp S (oHash S a c) := by
  unfold oHash
  split
  · rename_i q
    split
    · exact kp_same h
    · refine ⟨NI_hash h q.1 q.2, fun r hr => by show mw (mw S 3 1 a) 3 2 c r = S r; rw [mw_rn _ _ _ (by omega), mw_rn _ _ _ (by omega)], ?_⟩
      show mw (mw S 3 1 a) 3 2 c 5 0 ≤ _
      rw [mw_rn _ _ _ (by decide), mw_rn _ _ _ (by decide)]; omega
  · exact kp_same h
theorem kp_numbers {S : Mem} {v : Int} (h : NI S) (hv : v = 0 ∨ v = 1) : kp S (oNumbers S v) := by
  unfold oNumbers
  split
  · exact kp_same h
  · exact kp_mw (NI_numbers h hv) (by decide) (by decide)
theorem send_hi {S : Mem} {lo : Int → Int} {f : Int} (h : AI S lo (-1)) (f0 : 0 ≤ f) (f1 : f < S 3 0) {r : Nat} (hr : 45 ≤ r) : ∀ k : Nat, S 4 0 + k ≤ 400 → aSend S f k r = S r
  | 0, _ => rfl
  | k + 1, hk => by
    have i1 := (AI_send h f0 f1 k (by omega)).1
    rw [aSend, aPost_r i1 (by omega), send_hi h f0 f1 hr k (by omega)]
theorem kp_send {S : Mem} {f n : Int} (h : NI S) : kp S (oSend S f n) := by
  unfold oSend
  split
  · rename_i c
    split
    · rename_i c2
      split
      · exact kp_same h
      · obtain ⟨i1, i2, i3, i4⟩ := AI_send h c.1 c.2 n.toNat (by omega)
        refine ⟨NI_of i1 i4, fun r hr => send_hi h c.1 c.2 hr n.toNat (by omega), ?_⟩
        show aSend S f n.toNat 5 0 ≤ _
        rw [i4]; omega
    · exact kp_same h
  · exact kp_same h
theorem tick_hi {S : Mem} (h : NI S) (ht : S 5 0 < 1000000) {r : Nat} (hr : 45 ≤ r) : aTick S r = S r := by
  rw [aTick_eq, aSets_o (AI_tk4 h ht) (by omega) (by omega) (by omega) (by omega) (by omega) (by omega) (by omega) (by omega) (by omega) (by omega) 8 (by omega)]
  unfold tk4
  rw [aOuts_o _ (by omega) (by omega) (by omega) (by omega) (by omega) (by omega) (by omega) (by omega)]
  unfold tk3
  rw [aArs_o _ (by omega) (by omega) (by omega) (by omega) (by omega) (by omega) (by omega) (by omega)]
  unfold tk2
  rw [aLvs_o _ (by omega) (by omega) (by omega) (by omega) (by omega) (by omega)]
  exact mw_rn _ _ _ (by omega)
theorem ticks_hi {S : Mem} (h : NI S) {r : Nat} (hr : 45 ≤ r) : ∀ k : Nat, S 5 0 + k ≤ 1000000 → aTicks S k r = S r
  | 0, _ => rfl
  | k + 1, hk => by
    obtain ⟨i1, i2⟩ := NI_ticks h k (by omega)
    rw [aTicks, tick_hi i1 (by omega) hr, ticks_hi h hr k (by omega)]
theorem kp_tick {S : Mem} {n : Int} (h : NI S) (ht : S 5 0 ≤ 900000) : kp S (oTick S n) := by
  unfold oTick
  split
  · rename_i c
    obtain ⟨i1, i2⟩ := NI_ticks h n.toNat (by omega)
    refine ⟨i1, fun r hr => ticks_hi h hr n.toNat (by omega), ?_⟩
    show aTicks S n.toNat 5 0 ≤ _
    rw [i2]; omega
  · exact kp_same h
theorem kp_move {S : Mem} {b l how : Int} (h : NI S) : kp S (oMove S b l how) := by
  have hL := h.1.1
  unfold oMove
  split
  · rename_i c
    split
    · split
      · exact kp_same h
      · rename_i c3
        split
        · exact kp_same h
        · rename_i c4
          have hup := h.2.1.2.1 l
          have hu : S 9 l = 1 := by omega
          have hA := AI_mv0 (how := how) h c.1.1 c.1.2 hu (by omega) (by omega) (by omega)
          have ho : ∀ r, r = 5 ∨ 45 ≤ r → aMove S b l how r = S r := fun r hr => by
            have e0 : aMv0 S b l how r = S r := by unfold aMv0; rw [mw_rn _ _ _ (by omega), mw_rn _ _ _ (by omega)]
            unfold aMove
            split
            · rw [aReach_o _ _ _ (by omega) (by omega) (by omega) (by omega) (by omega) (by omega) (by omega) (by omega) (by omega) (by omega) (by omega), e0]
            · rw [aSettle_o hA _ (by omega) (by omega) (by omega) (by omega) (by omega) (by omega) (by omega) (by omega) (by omega) (by omega), e0]
          refine ⟨NI_move h c.1.1 c.1.2 hu (by omega) (by omega) (by omega), fun r hr => ho r (Or.inr hr), ?_⟩
          show aMove S b l how 5 0 ≤ _
          rw [ho 5 (Or.inl rfl)]; omega
    · exact kp_same h
  · exact kp_same h
theorem kp_drop {S : Mem} {b : Int} (h : NI S) : kp S (oDrop S b) := by
  unfold oDrop
  split
  · split
    · exact kp_same h
    · have hbk := AI_bk h b
      have ho : ∀ r, r = 5 ∨ 45 ≤ r → aCancel S b r = S r := fun r hr => aCancel_o _ _ (by omega) (by omega) (by omega) (by omega) (by omega) (by omega) (by omega) (by omega) (by omega)
      refine ⟨NI_cancel h, fun r hr => ho r (Or.inr hr), ?_⟩
      show aCancel S b 5 0 ≤ _
      rw [ho 5 (Or.inl rfl)]; omega
  · exact kp_same h
theorem can_hi {S : Mem} {lo : Int → Int} {l : Int} (h : AI S lo l) (l0 : 0 ≤ l) (hd : S 9 l = 0) {r : Nat} (hr : 45 ≤ r) : ∀ k : Nat, k ≤ 8 → aCan S l k r = S r
  | 0, _ => rfl
  | k + 1, hk => by
    have i1 := (AI_can h l0 hd k (by omega)).1
    have hbk := AI_bk i1 k
    unfold aCan
    dsimp only
    split
    · rw [aCancel_o _ _ (by omega) (by omega) (by omega) (by omega) (by omega) (by omega) (by omega) (by omega) (by omega), can_hi h l0 hd hr k (by omega)]
    · exact can_hi h l0 hd hr k (by omega)
theorem mvs_hi {S : Mem} {lo : Int → Int} {l : Int} (h : AI S lo l) (l0 : 0 ≤ l) (hd : S 9 l = 0) (ht : ∀ b, 0 ≤ b → b < 8 → S 20 b ≠ l) {r : Nat} (hr : 45 ≤ r) : ∀ k : Nat, k ≤ 8 → aMvs S l k r = S r
  | 0, _ => rfl
  | k + 1, hk => by
    obtain ⟨i1, i2, -⟩ := AI_mvs h l0 hd ht k (by omega)
    unfold aMvs
    dsimp only
    split
    · have hd2 : aMvs S l k 9 l = 0 := by rw [i2]; exact hd
      obtain ⟨j1, -⟩ := AI_mv2 (k := upF (mw (aMvs S l k) 20 k (-6)) (aMvs S l k 1 0).toNat) i1 (b := (k : Int)) (by omega) (by omega) l0 hd2 rfl
      unfold aMv1
      rw [mw_rn (aMvs S l k) _ _ (show (1 : Nat) ≠ 20 by decide), aSettle_o j1 _ (by omega) (by omega) (by omega) (by omega) (by omega) (by omega) (by omega) (by omega) (by omega) (by omega), mw_rn _ _ _ (by omega), mw_rn _ _ _ (by omega), mw_rn _ _ _ (by omega), mvs_hi h l0 hd ht hr k (by omega)]
    · exact mvs_hi h l0 hd ht hr k (by omega)
theorem kp_fail {S : Mem} {l : Int} (h : NI S) : kp S (oFail S l) := by
  unfold oFail
  split
  · rename_i c
    split
    · exact kp_same h
    · have hup := h.2.1.2.1 l
      have hu : S 9 l = 1 := by omega
      have h1 := AI_down h hu
      have e9 : aLose (mw S 9 l 0) l 9 l = 0 := by rw [mw_lose, mw_rs, up1_s]
      have el : ∀ r, r = 5 ∨ 45 ≤ r → aLose (mw S 9 l 0) l r = S r := fun r hr => by
        rw [mw_lose, mw_rn _ _ _ (by omega)]
        exact aLoK_o S l (by omega) (by omega) (by omega) (by omega) (by omega) (by omega) _
      obtain ⟨c1, c2, c3, c4, c5, c6⟩ := AI_can h1 c.1 e9 8 (by omega)
      have hd8 : aCan (aLose (mw S 9 l 0) l) l 8 9 l = 0 := by rw [c3]; exact e9
      obtain ⟨m1, m2, m3, m4, -⟩ := AI_mvs c1 c.1 hd8 (fun b b0 b8 => c6 b b0 (by omega)) 8 (by omega)
      refine ⟨NI_fail h hu, fun r hr => ?_, ?_⟩
      · show aMvs (aCan (aLose (mw S 9 l 0) l) l 8) l 8 r = S r
        rw [mvs_hi c1 c.1 hd8 (fun b b0 b8 => c6 b b0 (by omega)) hr 8 (by omega), can_hi h1 c.1 e9 hr 8 (by omega), el r (Or.inr hr)]
      · show aMvs (aCan (aLose (mw S 9 l 0) l) l 8) l 8 5 0 ≤ _
        rw [m4, c5, el 5 (Or.inl rfl)]; omega
  · exact kp_same h
theorem kp_back {S : Mem} {l : Int} (h : NI S) : kp S (oBack S l) := by
  have hL := h.1.1
  unfold oBack
  split
  · rename_i c
    split
    · have ho : ∀ r, r = 5 ∨ 45 ≤ r → aBack S l r = S r := fun r hr => by
        unfold aBack
        rw [aTake_o _ (by omega) (by omega) (by omega) (by omega) (by omega) (by omega) (by omega) (by omega) (by omega) (by omega), mw_rn _ _ _ (by omega)]
      refine ⟨NI_back h c.1 c.2, fun r hr => ho r (Or.inr hr), ?_⟩
      show aBack S l 5 0 ≤ _
      rw [ho 5 (Or.inl rfl)]; omega
    · exact kp_same h
  · exact kp_same h
end
section
/-! One call of the law: what holds before it holds after it. -/
def INV (M : Mem) (k : Int) : Prop := NI M ∧ RM M M (1700000 * k) ∧ (∀ l : Int, 0 ≤ l → l < 4 → M 45 l = 0) ∧ M 5 0 ≤ 500 * k
theorem kn_lt {r : Nat} (h : kn r = true) : r < 44 := by
  by_cases c : r < 44
  · exact c
  · exfalso
    unfold kn at h
    simp only [Bool.or_eq_true, beq_iff_eq] at h
    omega
theorem inv_pre {M : Mem} {o : Int × Mem} {k : Int} (h : INV M k) (hk : kp M o) : RM M o.2 (1700000 * k) := RM_M h.2.1 (fun r a b => hk.2.1 r (by omega))
theorem inv_op {M M2 : Mem} {o : Int × Mem} {k : Int} (h : INV M k) (hk : kp M o) (hR : RM o.2 M2 (1700000 * k + 1700000)) (hF : Fr o.2 M2) : INV M2 (k + 1) := by
  refine ⟨NI_fr hk.1 (fun r hr => hF r hr), ?_, fun l a b => ?_, ?_⟩
  · rw [show 1700000 * (k + 1) = 1700000 * k + 1700000 by omega]
    exact RM_S hR (fun r hr => hF r (by have := kn_lt hr; omega))
  · rw [hF 45 (by decide), hk.2.1 45 (by decide)]; exact h.2.2.1 l a b
  · rw [hF 5 (by decide)]
    have := hk.2.2
    have := h.2.2.2
    omega
theorem RM_S6 {S S' M : Mem} {B : Int} (h : RM S M B) (hS : ∀ r, kn r = true → r ≠ 6 → S' r = S r) (h6 : S' 6 0 = S 6 0) : RM S' M B := by
  have h1 : RM (mw S' 6 0 (S' 6 0)) M B := by
    refine ⟨?_, ?_, ?_⟩
    · have := h.1
      unfold Rr at *
      simp only [mw_rn, hS 7 rfl (by decide), hS 8 rfl (by decide), hS 9 rfl (by decide), hS 18 rfl (by decide), hS 19 rfl (by decide), hS 20 rfl (by decide), hS 21 rfl (by decide), hS 23 rfl (by decide), hS 24 rfl (by decide), hS 25 rfl (by decide), hS 31 rfl (by decide), hS 32 rfl (by decide), hS 33 rfl (by decide), hS 34 rfl (by decide), hS 35 rfl (by decide), hS 36 rfl (by decide), hS 37 rfl (by decide), hS 38 rfl (by decide), hS 39 rfl (by decide), hS 40 rfl (by decide), hS 43 rfl (by decide), ne_eq, not_false_eq_true, Nat.reduceEqDiff, Nat.reduceLT, Nat.reduceLeDiff, true_or, or_true, forall_const]
      exact this
    · have := h.2.1
      unfold Rs at *
      simp only [mw_rs, up1_s, mw_rn, hS 5 rfl (by decide), hS 1 rfl (by decide), hS 3 rfl (by decide), hS 4 rfl (by decide), hS 41 rfl (by decide), h6, ne_eq, not_false_eq_true, Nat.reduceEqDiff, Nat.reduceLT, Nat.reduceLeDiff, true_or, or_true, forall_const]
      exact this
    · have h3 := h.2.2
      simp only [mw_rn, hS 15 rfl (by decide), hS 16 rfl (by decide), hS 17 rfl (by decide), ne_eq, not_false_eq_true, Nat.reduceEqDiff, Nat.reduceLT, Nat.reduceLeDiff, true_or, or_true, forall_const]
      refine Rt_rw h3 (fun k p k0 k4 => ?_)
      show mw S' 6 0 (S' 6 0) (11 + k.toNat) p = S (11 + k.toNat) p
      rw [mw_rn _ _ _ (by omega)]
      have : k = 0 ∨ k = 1 ∨ k = 2 ∨ k = 3 := by omega
      rcases this with rfl | rfl | rfl | rfl
      · rw [show 11 + (0 : Int).toNat = 11 from rfl, hS 11 rfl (by decide)]
      · rw [show 11 + (1 : Int).toNat = 12 from rfl, hS 12 rfl (by decide)]
      · rw [show 11 + (2 : Int).toNat = 13 from rfl, hS 13 rfl (by decide)]
      · rw [show 11 + (3 : Int).toNat = 14 from rfl, hS 14 rfl (by decide)]
  rw [mw_id] at h1
  exact h1
theorem ev_pre {M M1 : Mem} {k : Int} (h : INV M k) (hm : evM M M1) : RM M M1 (1700000 * k) := RM_M h.2.1 (fun r a b => hm.1 r (by omega))
theorem inv_even {M M1 M2 : Mem} {k : Int} (h : INV M k) (hm : evM M M1) (hR : RM M M2 (1700000 * k)) (hF : Fr M1 M2) : INV M2 (k + 1) := by
  have er : ∀ r, r ≠ 6 → r < 47 → M2 r = M r := fun r a b => by rw [hF r b, hm.1 r a]
  have e6 : M2 6 0 = M 6 0 := by rw [hF 6 (by decide), hm.2]
  refine ⟨?_, ?_, fun l a b => ?_, ?_⟩
  · unfold NI
    rw [er 5 (by decide) (by decide)]
    exact AI_pl h.1 (fun r a b => er r a (by omega)) (by rw [e6]; exact h.1.1.2.2.2.2.2.2.2)
  · refine RM_B (RM_S6 hR (fun r hr a => er r a (by have := kn_lt hr; omega)) e6) (by omega)
  · rw [er 45 (by decide) (by decide)]; exact h.2.2.1 l a b
  · rw [er 5 (by decide) (by decide)]
    have := h.2.2.2
    omega
theorem lsA_h {S : Mem} {k v h' : Int} {pl' : Int → Int} (h : lsA S k v h' pl') (h0 : S 6 0 = 0 ∨ S 6 0 = 1) : h' = 0 ∨ h' = 1 := by
  rcases h with ⟨-, -, c, -⟩ | ⟨-, -, -, c, -⟩ | ⟨-, -, F, c, -⟩
  · rw [c]; exact h0
  · rw [c]; exact h0
  · rcases c with ⟨-, c, -⟩ | ⟨-, c, -⟩
    · rw [c]; exact h0
    · exact Or.inr c
theorem ls_pre {M M1 : Mem} {k : Int} (h : INV M k) (hm : lsM0 M M1) : RM M M1 (1700000 * k) := RM_M h.2.1 (fun r a b => hm r (by omega) (by omega) (by omega) (by omega))
theorem inv_least {M M1 M2 : Mem} {k q v v' : Int} (h : INV M k) (hm : lsM0 M M1) (hv : lsA M q v (M1 6 0) (M1 43)) (hr : ∀ r, r ≠ 47 → r < 70 → M2 r = M1 r) (h47 : ∀ i, i ≠ 31 → M2 47 i = M1 47 i) (hv' : lsA M q v' (M2 47 31) (M2 70)) : v = v' ∧ INV M2 (k + 1) := by
  obtain ⟨e1, e2, e3⟩ := lsA_fun h.1.1.1.2 hv hv'
  refine ⟨e1, ?_⟩
  have er : ∀ r, r ≠ 6 → r ≠ 43 → r ≠ 44 → r ≠ 46 → r ≠ 47 → r < 70 → M2 r = M r := fun r a b c d e f => by rw [hr r e f, hm r a b c d]
  have e47 : ∀ i, i ≠ 31 → M2 47 i = M 47 i := fun i a => by rw [h47 i a, hm 47 (by decide) (by decide) (by decide) (by decide)]
  have e6 : M2 6 0 = M2 47 31 := by rw [hr 6 (by decide) (by decide), e2]
  have e43 : M2 43 = M2 70 := by rw [hr 43 (by decide) (by decide), e3]
  refine ⟨?_, ?_, fun l a b => ?_, ?_⟩
  · unfold NI
    rw [er 5 (by decide) (by decide) (by decide) (by decide) (by decide) (by decide)]
    exact AI_pl h.1 (fun r a b => er r a (by omega) (by omega) (by omega) (by omega) (by omega)) (by rw [e6]; exact lsA_h hv' h.1.1.2.2.2.2.2.2.2)
  · obtain ⟨⟨e48, e49, e50, e51, e52, e53, e54, e55, e56, e57, e58, e59, e60, e61, e62, e63, e64, e65, e66, e69, e70⟩, ⟨t1, t2, t3, t4, t5, t6, t7, t8, t9⟩, hT⟩ := RM_B h.2.1 (show 1700000 * k ≤ 1700000 * (k + 1) by omega)
    refine ⟨?_, ?_, ?_⟩
    · unfold Rr
      simp only [er, ne_eq, not_false_eq_true, Nat.reduceEqDiff, Nat.reduceLT, Nat.reduceLeDiff, true_or, or_true, forall_const]
      exact ⟨e48, e49, e50, e51, e52, e53, e54, e55, e56, e57, e58, e59, e60, e61, e62, e63, e64, e65, e66, e69, e43.symm⟩
    · unfold Rs
      rw [e47 0 (by decide), e47 1 (by decide), e47 10 (by decide), e47 13 (by decide), e47 14 (by decide), e47 15 (by decide), e47 16 (by decide), e47 29 (by decide)]
      simp only [er, ne_eq, not_false_eq_true, Nat.reduceEqDiff, Nat.reduceLT, Nat.reduceLeDiff, true_or, or_true, forall_const]
      exact ⟨t1, t2, t3, t4, t5, t6, t7, t8, e6.symm⟩
    · rw [e47 28 (by decide)]
      simp only [er, ne_eq, not_false_eq_true, Nat.reduceEqDiff, Nat.reduceLT, Nat.reduceLeDiff, true_or, or_true, forall_const]
      exact Rt_rw hT (fun k p k0 k4 => by
        show M2 (11 + k.toNat) p = _
        rw [er _ (by omega) (by omega) (by omega) (by omega) (by omega) (by omega)])
  · rw [er 45 (by decide) (by decide) (by decide) (by decide) (by decide) (by decide)]; exact h.2.2.1 l a b
  · rw [er 5 (by decide) (by decide) (by decide) (by decide) (by decide) (by decide)]
    have := h.2.2.2
    omega
end
