section
-- ===== PART A: goes FIRST, ahead of the names: the tables' words, and 'selects' of the private methods out of them =====
/-- a private method of a class that the tables say can be made, by its rows of tables_1 -/
def lw_okq (q : MethodName × Nat) : Prop := (q.1.cls ≠ "java/lang/invoke/MethodHandle" ∧ q.1.cls ≠ "java/lang/invoke/VarHandle") ∧ Cond.instantiable q.1.cls q.2 ∈ tables_1 ∧ Cond.privateMethod q.1 ∈ tables_1 ∧ Cond.instanceMethod q.1 ∈ tables_1
theorem lw_p0 : lw_okq (⟨"BundleLinks$Traffic", "release", "(I)I"⟩, 7) := ⟨⟨by decide +kernel, by decide +kernel⟩, List.mem_of_getElem? (i := 227) (by decide +kernel), List.mem_of_getElem? (i := 336) (by decide +kernel), List.mem_of_getElem? (i := 337) (by decide +kernel)⟩
theorem lw_p1 : lw_okq (⟨"BundleLinks$Traffic", "enqueue", "(II)V"⟩, 7) := ⟨⟨by decide +kernel, by decide +kernel⟩, List.mem_of_getElem? (i := 227) (by decide +kernel), List.mem_of_getElem? (i := 340) (by decide +kernel), List.mem_of_getElem? (i := 341) (by decide +kernel)⟩
theorem lw_p2 : lw_okq (⟨"BundleLinks$Traffic", "leave", "(I)V"⟩, 7) := ⟨⟨by decide +kernel, by decide +kernel⟩, List.mem_of_getElem? (i := 227) (by decide +kernel), List.mem_of_getElem? (i := 427) (by decide +kernel), List.mem_of_getElem? (i := 428) (by decide +kernel)⟩
theorem lw_p3 : lw_okq (⟨"BundleLinks$Traffic", "arrive", "(I)V"⟩, 7) := ⟨⟨by decide +kernel, by decide +kernel⟩, List.mem_of_getElem? (i := 227) (by decide +kernel), List.mem_of_getElem? (i := 434) (by decide +kernel), List.mem_of_getElem? (i := 435) (by decide +kernel)⟩
theorem lw_p4 : lw_okq (⟨"BundleLinks$Traffic", "letOut", "(I)V"⟩, 7) := ⟨⟨by decide +kernel, by decide +kernel⟩, List.mem_of_getElem? (i := 227) (by decide +kernel), List.mem_of_getElem? (i := 438) (by decide +kernel), List.mem_of_getElem? (i := 439) (by decide +kernel)⟩
theorem lw_p5 : lw_okq (⟨"BundleLinks$Traffic", "letOutInOrder", "()V"⟩, 7) := ⟨⟨by decide +kernel, by decide +kernel⟩, List.mem_of_getElem? (i := 227) (by decide +kernel), List.mem_of_getElem? (i := 446) (by decide +kernel), List.mem_of_getElem? (i := 447) (by decide +kernel)⟩
theorem lw_p6 : lw_okq (⟨"BundleLinks$Traffic", "settle", "(I)V"⟩, 7) := ⟨⟨by decide +kernel, by decide +kernel⟩, List.mem_of_getElem? (i := 227) (by decide +kernel), List.mem_of_getElem? (i := 451) (by decide +kernel), List.mem_of_getElem? (i := 452) (by decide +kernel)⟩
theorem lw_p7 : lw_okq (⟨"BundleLinks$Traffic", "mayReach", "(II)Z"⟩, 7) := ⟨⟨by decide +kernel, by decide +kernel⟩, List.mem_of_getElem? (i := 227) (by decide +kernel), List.mem_of_getElem? (i := 455) (by decide +kernel), List.mem_of_getElem? (i := 456) (by decide +kernel)⟩
theorem lw_p8 : lw_okq (⟨"BundleLinks$Traffic", "reach", "(II)V"⟩, 7) := ⟨⟨by decide +kernel, by decide +kernel⟩, List.mem_of_getElem? (i := 227) (by decide +kernel), List.mem_of_getElem? (i := 459) (by decide +kernel), List.mem_of_getElem? (i := 460) (by decide +kernel)⟩
theorem lw_p9 : lw_okq (⟨"BundleLinks$Traffic", "loseLetters", "(I)I"⟩, 7) := ⟨⟨by decide +kernel, by decide +kernel⟩, List.mem_of_getElem? (i := 227) (by decide +kernel), List.mem_of_getElem? (i := 488) (by decide +kernel), List.mem_of_getElem? (i := 489) (by decide +kernel)⟩
theorem lw_p10 : lw_okq (⟨"BundleLinks$Traffic", "upLinkWithFewestBuckets", "()I"⟩, 7) := ⟨⟨by decide +kernel, by decide +kernel⟩, List.mem_of_getElem? (i := 227) (by decide +kernel), List.mem_of_getElem? (i := 493) (by decide +kernel), List.mem_of_getElem? (i := 494) (by decide +kernel)⟩
theorem lw_p11 : lw_okq (⟨"BundleLinks$Planner", "measure", "(I)V"⟩, 12) := ⟨⟨by decide +kernel, by decide +kernel⟩, List.mem_of_getElem? (i := 257) (by decide +kernel), List.mem_of_getElem? (i := 556) (by decide +kernel), List.mem_of_getElem? (i := 557) (by decide +kernel)⟩
theorem lw_p12 : lw_okq (⟨"BundleLinks$Planner", "isWithinShare", "(II)Z"⟩, 12) := ⟨⟨by decide +kernel, by decide +kernel⟩, List.mem_of_getElem? (i := 257) (by decide +kernel), List.mem_of_getElem? (i := 561) (by decide +kernel), List.mem_of_getElem? (i := 562) (by decide +kernel)⟩
theorem lw_p13 : lw_okq (⟨"BundleLinks$Planner", "place", "(II)V"⟩, 12) := ⟨⟨by decide +kernel, by decide +kernel⟩, List.mem_of_getElem? (i := 257) (by decide +kernel), List.mem_of_getElem? (i := 574) (by decide +kernel), List.mem_of_getElem? (i := 575) (by decide +kernel)⟩
theorem lw_p14 : lw_okq (⟨"BundleLinks$Planner", "keep", "(I)V"⟩, 12) := ⟨⟨by decide +kernel, by decide +kernel⟩, List.mem_of_getElem? (i := 257) (by decide +kernel), List.mem_of_getElem? (i := 578) (by decide +kernel), List.mem_of_getElem? (i := 579) (by decide +kernel)⟩
theorem lw_p15 : lw_okq (⟨"BundleLinks$Planner", "placeOn", "(III)V"⟩, 12) := ⟨⟨by decide +kernel, by decide +kernel⟩, List.mem_of_getElem? (i := 257) (by decide +kernel), List.mem_of_getElem? (i := 585) (by decide +kernel), List.mem_of_getElem? (i := 586) (by decide +kernel)⟩
def lw_privs_1 : List (MethodName × Nat) := [(⟨"BundleLinks$Traffic", "release", "(I)I"⟩, 7), (⟨"BundleLinks$Traffic", "enqueue", "(II)V"⟩, 7), (⟨"BundleLinks$Traffic", "leave", "(I)V"⟩, 7), (⟨"BundleLinks$Traffic", "arrive", "(I)V"⟩, 7), (⟨"BundleLinks$Traffic", "letOut", "(I)V"⟩, 7), (⟨"BundleLinks$Traffic", "letOutInOrder", "()V"⟩, 7), (⟨"BundleLinks$Traffic", "settle", "(I)V"⟩, 7), (⟨"BundleLinks$Traffic", "mayReach", "(II)Z"⟩, 7), (⟨"BundleLinks$Traffic", "reach", "(II)V"⟩, 7), (⟨"BundleLinks$Traffic", "loseLetters", "(I)I"⟩, 7), (⟨"BundleLinks$Traffic", "upLinkWithFewestBuckets", "()I"⟩, 7), (⟨"BundleLinks$Planner", "measure", "(I)V"⟩, 12), (⟨"BundleLinks$Planner", "isWithinShare", "(II)Z"⟩, 12), (⟨"BundleLinks$Planner", "place", "(II)V"⟩, 12), (⟨"BundleLinks$Planner", "keep", "(I)V"⟩, 12), (⟨"BundleLinks$Planner", "placeOn", "(III)V"⟩, 12)]
theorem lw_r1 : ∀ q ∈ lw_privs_1, lw_okq q := List.forall_mem_cons.mpr ⟨lw_p0, List.forall_mem_cons.mpr ⟨lw_p1, List.forall_mem_cons.mpr ⟨lw_p2, List.forall_mem_cons.mpr ⟨lw_p3, List.forall_mem_cons.mpr ⟨lw_p4, List.forall_mem_cons.mpr ⟨lw_p5, List.forall_mem_cons.mpr ⟨lw_p6, List.forall_mem_cons.mpr ⟨lw_p7, List.forall_mem_cons.mpr ⟨lw_p8, List.forall_mem_cons.mpr ⟨lw_p9, List.forall_mem_cons.mpr ⟨lw_p10, List.forall_mem_cons.mpr ⟨lw_p11, List.forall_mem_cons.mpr ⟨lw_p12, List.forall_mem_cons.mpr ⟨lw_p13, List.forall_mem_cons.mpr ⟨lw_p14, List.forall_mem_cons.mpr ⟨lw_p15, fun _ h => absurd h List.not_mem_nil⟩⟩⟩⟩⟩⟩⟩⟩⟩⟩⟩⟩⟩⟩⟩⟩
theorem lw_p16 : lw_okq (⟨"BundleLinksModel", "takes", "(I)I"⟩, 36) := ⟨⟨by decide +kernel, by decide +kernel⟩, List.mem_of_getElem? (i := 593) (by decide +kernel), List.mem_of_getElem? (i := 715) (by decide +kernel), List.mem_of_getElem? (i := 716) (by decide +kernel)⟩
theorem lw_p17 : lw_okq (⟨"BundleLinksModel", "lets", "(I)I"⟩, 36) := ⟨⟨by decide +kernel, by decide +kernel⟩, List.mem_of_getElem? (i := 593) (by decide +kernel), List.mem_of_getElem? (i := 719) (by decide +kernel), List.mem_of_getElem? (i := 720) (by decide +kernel)⟩
theorem lw_p18 : lw_okq (⟨"BundleLinksModel", "queue", "(II)V"⟩, 36) := ⟨⟨by decide +kernel, by decide +kernel⟩, List.mem_of_getElem? (i := 593) (by decide +kernel), List.mem_of_getElem? (i := 723) (by decide +kernel), List.mem_of_getElem? (i := 724) (by decide +kernel)⟩
theorem lw_p19 : lw_okq (⟨"BundleLinksModel", "isFlow", "(I)Z"⟩, 36) := ⟨⟨by decide +kernel, by decide +kernel⟩, List.mem_of_getElem? (i := 593) (by decide +kernel), List.mem_of_getElem? (i := 735) (by decide +kernel), List.mem_of_getElem? (i := 736) (by decide +kernel)⟩
theorem lw_p20 : lw_okq (⟨"BundleLinksModel", "hasOpen", "(I)Z"⟩, 36) := ⟨⟨by decide +kernel, by decide +kernel⟩, List.mem_of_getElem? (i := 593) (by decide +kernel), List.mem_of_getElem? (i := 743) (by decide +kernel), List.mem_of_getElem? (i := 744) (by decide +kernel)⟩
theorem lw_p21 : lw_okq (⟨"BundleLinksModel", "bucketNow", "(I)I"⟩, 36) := ⟨⟨by decide +kernel, by decide +kernel⟩, List.mem_of_getElem? (i := 593) (by decide +kernel), List.mem_of_getElem? (i := 747) (by decide +kernel), List.mem_of_getElem? (i := 748) (by decide +kernel)⟩
theorem lw_p22 : lw_okq (⟨"BundleLinksModel", "held", "(I)I"⟩, 36) := ⟨⟨by decide +kernel, by decide +kernel⟩, List.mem_of_getElem? (i := 593) (by decide +kernel), List.mem_of_getElem? (i := 763) (by decide +kernel), List.mem_of_getElem? (i := 764) (by decide +kernel)⟩
theorem lw_p23 : lw_okq (⟨"BundleLinksModel", "ofFlowIn", "(II)I"⟩, 36) := ⟨⟨by decide +kernel, by decide +kernel⟩, List.mem_of_getElem? (i := 593) (by decide +kernel), List.mem_of_getElem? (i := 767) (by decide +kernel), List.mem_of_getElem? (i := 768) (by decide +kernel)⟩
theorem lw_p24 : lw_okq (⟨"BundleLinksModel", "tick1", "()V"⟩, 36) := ⟨⟨by decide +kernel, by decide +kernel⟩, List.mem_of_getElem? (i := 593) (by decide +kernel), List.mem_of_getElem? (i := 775) (by decide +kernel), List.mem_of_getElem? (i := 776) (by decide +kernel)⟩
theorem lw_p25 : lw_okq (⟨"BundleLinksModel", "firstQueued", "(I)I"⟩, 36) := ⟨⟨by decide +kernel, by decide +kernel⟩, List.mem_of_getElem? (i := 593) (by decide +kernel), List.mem_of_getElem? (i := 779) (by decide +kernel), List.mem_of_getElem? (i := 780) (by decide +kernel)⟩
theorem lw_p26 : lw_okq (⟨"BundleLinksModel", "firstArriving", "(I)I"⟩, 36) := ⟨⟨by decide +kernel, by decide +kernel⟩, List.mem_of_getElem? (i := 593) (by decide +kernel), List.mem_of_getElem? (i := 783) (by decide +kernel), List.mem_of_getElem? (i := 784) (by decide +kernel)⟩
theorem lw_p27 : lw_okq (⟨"BundleLinksModel", "comesOut", "(I)V"⟩, 36) := ⟨⟨by decide +kernel, by decide +kernel⟩, List.mem_of_getElem? (i := 593) (by decide +kernel), List.mem_of_getElem? (i := 787) (by decide +kernel), List.mem_of_getElem? (i := 788) (by decide +kernel)⟩
theorem lw_p28 : lw_okq (⟨"BundleLinksModel", "isNext", "(I)Z"⟩, 36) := ⟨⟨by decide +kernel, by decide +kernel⟩, List.mem_of_getElem? (i := 593) (by decide +kernel), List.mem_of_getElem? (i := 791) (by decide +kernel), List.mem_of_getElem? (i := 792) (by decide +kernel)⟩
theorem lw_p29 : lw_okq (⟨"BundleLinksModel", "settle", "(I)I"⟩, 36) := ⟨⟨by decide +kernel, by decide +kernel⟩, List.mem_of_getElem? (i := 593) (by decide +kernel), List.mem_of_getElem? (i := 795) (by decide +kernel), List.mem_of_getElem? (i := 796) (by decide +kernel)⟩
theorem lw_p30 : lw_okq (⟨"BundleLinksModel", "canCome", "(II)Z"⟩, 36) := ⟨⟨by decide +kernel, by decide +kernel⟩, List.mem_of_getElem? (i := 593) (by decide +kernel), List.mem_of_getElem? (i := 799) (by decide +kernel), List.mem_of_getElem? (i := 800) (by decide +kernel)⟩
theorem lw_p31 : lw_okq (⟨"BundleLinksModel", "isLink", "(I)Z"⟩, 36) := ⟨⟨by decide +kernel, by decide +kernel⟩, List.mem_of_getElem? (i := 593) (by decide +kernel), List.mem_of_getElem? (i := 810) (by decide +kernel), List.mem_of_getElem? (i := 811) (by decide +kernel)⟩
def lw_privs_2 : List (MethodName × Nat) := [(⟨"BundleLinksModel", "takes", "(I)I"⟩, 36), (⟨"BundleLinksModel", "lets", "(I)I"⟩, 36), (⟨"BundleLinksModel", "queue", "(II)V"⟩, 36), (⟨"BundleLinksModel", "isFlow", "(I)Z"⟩, 36), (⟨"BundleLinksModel", "hasOpen", "(I)Z"⟩, 36), (⟨"BundleLinksModel", "bucketNow", "(I)I"⟩, 36), (⟨"BundleLinksModel", "held", "(I)I"⟩, 36), (⟨"BundleLinksModel", "ofFlowIn", "(II)I"⟩, 36), (⟨"BundleLinksModel", "tick1", "()V"⟩, 36), (⟨"BundleLinksModel", "firstQueued", "(I)I"⟩, 36), (⟨"BundleLinksModel", "firstArriving", "(I)I"⟩, 36), (⟨"BundleLinksModel", "comesOut", "(I)V"⟩, 36), (⟨"BundleLinksModel", "isNext", "(I)Z"⟩, 36), (⟨"BundleLinksModel", "settle", "(I)I"⟩, 36), (⟨"BundleLinksModel", "canCome", "(II)Z"⟩, 36), (⟨"BundleLinksModel", "isLink", "(I)Z"⟩, 36)]
theorem lw_r2 : ∀ q ∈ lw_privs_2, lw_okq q := List.forall_mem_cons.mpr ⟨lw_p16, List.forall_mem_cons.mpr ⟨lw_p17, List.forall_mem_cons.mpr ⟨lw_p18, List.forall_mem_cons.mpr ⟨lw_p19, List.forall_mem_cons.mpr ⟨lw_p20, List.forall_mem_cons.mpr ⟨lw_p21, List.forall_mem_cons.mpr ⟨lw_p22, List.forall_mem_cons.mpr ⟨lw_p23, List.forall_mem_cons.mpr ⟨lw_p24, List.forall_mem_cons.mpr ⟨lw_p25, List.forall_mem_cons.mpr ⟨lw_p26, List.forall_mem_cons.mpr ⟨lw_p27, List.forall_mem_cons.mpr ⟨lw_p28, List.forall_mem_cons.mpr ⟨lw_p29, List.forall_mem_cons.mpr ⟨lw_p30, List.forall_mem_cons.mpr ⟨lw_p31, fun _ h => absurd h List.not_mem_nil⟩⟩⟩⟩⟩⟩⟩⟩⟩⟩⟩⟩⟩⟩⟩⟩
theorem lw_p32 : lw_okq (⟨"BundleLinksModel", "bucketsOn", "(I)I"⟩, 36) := ⟨⟨by decide +kernel, by decide +kernel⟩, List.mem_of_getElem? (i := 593) (by decide +kernel), List.mem_of_getElem? (i := 822) (by decide +kernel), List.mem_of_getElem? (i := 823) (by decide +kernel)⟩
theorem lw_p33 : lw_okq (⟨"BundleLinksModel", "inState", "(II)I"⟩, 36) := ⟨⟨by decide +kernel, by decide +kernel⟩, List.mem_of_getElem? (i := 593) (by decide +kernel), List.mem_of_getElem? (i := 838) (by decide +kernel), List.mem_of_getElem? (i := 839) (by decide +kernel)⟩
theorem lw_p34 : lw_okq (⟨"BundleLinksModel", "load", "(I)I"⟩, 36) := ⟨⟨by decide +kernel, by decide +kernel⟩, List.mem_of_getElem? (i := 593) (by decide +kernel), List.mem_of_getElem? (i := 842) (by decide +kernel), List.mem_of_getElem? (i := 843) (by decide +kernel)⟩
theorem lw_p35 : lw_okq (⟨"BundleLinksModel", "rates", "(I)I"⟩, 36) := ⟨⟨by decide +kernel, by decide +kernel⟩, List.mem_of_getElem? (i := 593) (by decide +kernel), List.mem_of_getElem? (i := 846) (by decide +kernel), List.mem_of_getElem? (i := 847) (by decide +kernel)⟩
theorem lw_p36 : lw_okq (⟨"BundleLinksModel", "noneUp", "()Z"⟩, 36) := ⟨⟨by decide +kernel, by decide +kernel⟩, List.mem_of_getElem? (i := 593) (by decide +kernel), List.mem_of_getElem? (i := 874) (by decide +kernel), List.mem_of_getElem? (i := 875) (by decide +kernel)⟩
theorem lw_p37 : lw_okq (⟨"BundleLinksModel", "isEven", "(I)Z"⟩, 36) := ⟨⟨by decide +kernel, by decide +kernel⟩, List.mem_of_getElem? (i := 593) (by decide +kernel), List.mem_of_getElem? (i := 878) (by decide +kernel), List.mem_of_getElem? (i := 879) (by decide +kernel)⟩
theorem lw_p38 : lw_okq (⟨"BundleLinksModel", "nextUp", "(I)I"⟩, 36) := ⟨⟨by decide +kernel, by decide +kernel⟩, List.mem_of_getElem? (i := 593) (by decide +kernel), List.mem_of_getElem? (i := 887) (by decide +kernel), List.mem_of_getElem? (i := 888) (by decide +kernel)⟩
theorem lw_p39 : lw_okq (⟨"BundleLinksModel", "turns", "()Z"⟩, 36) := ⟨⟨by decide +kernel, by decide +kernel⟩, List.mem_of_getElem? (i := 593) (by decide +kernel), List.mem_of_getElem? (i := 891) (by decide +kernel), List.mem_of_getElem? (i := 892) (by decide +kernel)⟩
def lw_privs_3 : List (MethodName × Nat) := [(⟨"BundleLinksModel", "bucketsOn", "(I)I"⟩, 36), (⟨"BundleLinksModel", "inState", "(II)I"⟩, 36), (⟨"BundleLinksModel", "load", "(I)I"⟩, 36), (⟨"BundleLinksModel", "rates", "(I)I"⟩, 36), (⟨"BundleLinksModel", "noneUp", "()Z"⟩, 36), (⟨"BundleLinksModel", "isEven", "(I)Z"⟩, 36), (⟨"BundleLinksModel", "nextUp", "(I)I"⟩, 36), (⟨"BundleLinksModel", "turns", "()Z"⟩, 36)]
theorem lw_r3 : ∀ q ∈ lw_privs_3, lw_okq q := List.forall_mem_cons.mpr ⟨lw_p32, List.forall_mem_cons.mpr ⟨lw_p33, List.forall_mem_cons.mpr ⟨lw_p34, List.forall_mem_cons.mpr ⟨lw_p35, List.forall_mem_cons.mpr ⟨lw_p36, List.forall_mem_cons.mpr ⟨lw_p37, List.forall_mem_cons.mpr ⟨lw_p38, List.forall_mem_cons.mpr ⟨lw_p39, fun _ h => absurd h List.not_mem_nil⟩⟩⟩⟩⟩⟩⟩⟩
def lw_privs : List (MethodName × Nat) := lw_privs_1 ++ (lw_privs_2 ++ (lw_privs_3))
def lw_tbl : List Cond := k2_sels lw_privs ++ tables_1
theorem lw_privs_ok : ∀ q ∈ lw_privs, lw_okq q := by
  show ∀ q ∈ lw_privs_1 ++ (lw_privs_2 ++ (lw_privs_3)), lw_okq q
  exact List.forall_mem_append.mpr ⟨lw_r1, List.forall_mem_append.mpr ⟨lw_r2, lw_r3⟩⟩
/-! ===== BEGIN printed: names, fields, word lists, decode rows ===== -/
def RX0 : String := "BundleLinks$Buckets"
def TX0 : u_T := fun k => match k with
  | 0 => ("BundleLinks$Buckets", "on", "[I", true)
  | 1 => ("BundleLinks$Buckets", "to", "[I", true)
  | 2 => ("BundleLinks$Buckets", "holds", "[Z", true)
  | 3 => ("BundleLinks$Buckets", "held", "[I", true)
  | _ => ("BundleLinks$Buckets", "moved", "[I", true)
def tyX0 : Nat → FieldType := fun k => match k with
  | 0 => .array .int
  | 1 => .array .int
  | 2 => .array .boolean
  | 3 => .array .int
  | _ => .array .int
abbrev wsX00 : List Cond := u_ws RX0 TX0 5
theorem nmX0 : ∀ a, a < 5 → ∀ b, b < 5 → a ≠ b → (TX0 a).2.1 ≠ (TX0 b).2.1 := by decide +kernel
theorem tyX0_ok : ∀ k, k < 5 → parseFieldDescriptor (TX0 k).2.2.1 = some (tyX0 k) := by decide +kernel
abbrev cX0_init : ByteArray := prog_2_method_1_code
def yX0_init : MethodName := ⟨RX0, "<init>", "()V"⟩
abbrev cX0_isUnsettled : ByteArray := prog_2_method_2_code
def yX0_isUnsettled : MethodName := ⟨RX0, "isUnsettled", "(I)Z"⟩
abbrev cX0_isAnyUnsettled : ByteArray := prog_2_method_3_code
def yX0_isAnyUnsettled : MethodName := ⟨RX0, "isAnyUnsettled", "()Z"⟩
abbrev cX0_howManyOn : ByteArray := prog_2_method_4_code
def yX0_howManyOn : MethodName := ⟨RX0, "howManyOn", "(I)I"⟩
def RX1 : String := "BundleLinks$Flows"
def TX1 : u_T := fun k => match k with
  | 0 => ("BundleLinks$Flows", "count", "I", false)
  | 1 => ("BundleLinks$Flows", "a", "I", false)
  | 2 => ("BundleLinks$Flows", "c", "I", false)
  | 3 => ("BundleLinks$Flows", "rate", "[I", true)
  | 4 => ("BundleLinks$Flows", "pinned", "[I", true)
  | 5 => ("BundleLinks$Flows", "sent", "[I", true)
  | 6 => ("BundleLinks$Flows", "cameOut", "[I", true)
  | 7 => ("BundleLinks$Flows", "lost", "[I", true)
  | 8 => ("BundleLinks$Flows", "latestOut", "[I", true)
  | _ => ("BundleLinks$Flows", "mixedUp", "[Z", true)
def tyX1 : Nat → FieldType := fun k => match k with
  | 0 => .int
  | 1 => .int
  | 2 => .int
  | 3 => .array .int
  | 4 => .array .int
  | 5 => .array .int
  | 6 => .array .int
  | 7 => .array .int
  | 8 => .array .int
  | _ => .array .boolean
abbrev wsX10 : List Cond := u_ws RX1 TX1 10
theorem nmX1 : ∀ a, a < 10 → ∀ b, b < 10 → a ≠ b → (TX1 a).2.1 ≠ (TX1 b).2.1 := by decide +kernel
theorem tyX1_ok : ∀ k, k < 10 → parseFieldDescriptor (TX1 k).2.2.1 = some (tyX1 k) := by decide +kernel
abbrev cX1_init : ByteArray := prog_3_method_1_code
def yX1_init : MethodName := ⟨RX1, "<init>", "()V"⟩
abbrev cX1_add : ByteArray := prog_3_method_2_code
def yX1_add : MethodName := ⟨RX1, "add", "(I)I"⟩
abbrev cX1_bucketOf : ByteArray := prog_3_method_3_code
def yX1_bucketOf : MethodName := ⟨RX1, "bucketOf", "(I)I"⟩
abbrev cX1_hasUnended : ByteArray := prog_3_method_4_code
def yX1_hasUnended : MethodName := ⟨RX1, "hasUnended", "(I)Z"⟩
abbrev cX1_rateOfBucket : ByteArray := prog_3_method_5_code
def yX1_rateOfBucket : MethodName := ⟨RX1, "rateOfBucket", "(I)I"⟩
abbrev cX1_noteOut : ByteArray := prog_3_method_6_code
def yX1_noteOut : MethodName := ⟨RX1, "noteOut", "(II)V"⟩
def RX2 : String := "BundleLinks$Letters"
def TX2 : u_T := fun k => match k with
  | 0 => ("BundleLinks$Letters", "count", "I", false)
  | 1 => ("BundleLinks$Letters", "flow", "[I", true)
  | 2 => ("BundleLinks$Letters", "place", "[I", true)
  | 3 => ("BundleLinks$Letters", "bucket", "[I", true)
  | 4 => ("BundleLinks$Letters", "state", "[I", true)
  | 5 => ("BundleLinks$Letters", "link", "[I", true)
  | 6 => ("BundleLinks$Letters", "sentAt", "[I", true)
  | 7 => ("BundleLinks$Letters", "leftAt", "[I", true)
  | 8 => ("BundleLinks$Letters", "arrivesAt", "[I", true)
  | 9 => ("BundleLinks$Letters", "endedAt", "[I", true)
  | 10 => ("BundleLinks$Letters", "inOrderOut", "[I", true)
  | _ => ("BundleLinks$Letters", "inState", "[I", true)
def tyX2 : Nat → FieldType := fun k => match k with
  | 0 => .int
  | 1 => .array .int
  | 2 => .array .int
  | 3 => .array .int
  | 4 => .array .int
  | 5 => .array .int
  | 6 => .array .int
  | 7 => .array .int
  | 8 => .array .int
  | 9 => .array .int
  | 10 => .array .int
  | _ => .array .int
abbrev wsX20 : List Cond := u_ws RX2 TX2 12
theorem nmX2 : ∀ a, a < 12 → ∀ b, b < 12 → a ≠ b → (TX2 a).2.1 ≠ (TX2 b).2.1 := by decide +kernel
theorem tyX2_ok : ∀ k, k < 12 → parseFieldDescriptor (TX2 k).2.2.1 = some (tyX2 k) := by decide +kernel
abbrev cX2_init : ByteArray := prog_4_method_1_code
def yX2_init : MethodName := ⟨RX2, "<init>", "()V"⟩
abbrev cX2_add : ByteArray := prog_4_method_2_code
def yX2_add : MethodName := ⟨RX2, "add", "(IIII)I"⟩
abbrev cX2_turn : ByteArray := prog_4_method_3_code
def yX2_turn : MethodName := ⟨RX2, "turn", "(II)V"⟩
abbrev cX2_hasUnended : ByteArray := prog_4_method_4_code
def yX2_hasUnended : MethodName := ⟨RX2, "hasUnended", "()Z"⟩
abbrev cX2_isAnyUnderway : ByteArray := prog_4_method_5_code
def yX2_isAnyUnderway : MethodName := ⟨RX2, "isAnyUnderway", "()Z"⟩
def RX3 : String := "BundleLinks$Links"
def TX3 : u_T := fun k => match k with
  | 0 => ("BundleLinks$Links", "count", "I", false)
  | 1 => ("BundleLinks$Links", "speed", "[I", true)
  | 2 => ("BundleLinks$Links", "delay", "[I", true)
  | 3 => ("BundleLinks$Links", "up", "[Z", true)
  | 4 => ("BundleLinks$Links", "row", "[[I", true)
  | 5 => ("BundleLinks$Links", "wayStart", "[I", true)
  | 6 => ("BundleLinks$Links", "queueStart", "[I", true)
  | 7 => ("BundleLinks$Links", "queueEnd", "[I", true)
  | _ => ("BundleLinks$Links", "leftEver", "[I", true)
def tyX3 : Nat → FieldType := fun k => match k with
  | 0 => .int
  | 1 => .array .int
  | 2 => .array .int
  | 3 => .array .boolean
  | 4 => .array (.array .int)
  | 5 => .array .int
  | 6 => .array .int
  | 7 => .array .int
  | _ => .array .int
abbrev wsX30 : List Cond := u_ws RX3 TX3 9
theorem nmX3 : ∀ a, a < 9 → ∀ b, b < 9 → a ≠ b → (TX3 a).2.1 ≠ (TX3 b).2.1 := by decide +kernel
theorem tyX3_ok : ∀ k, k < 9 → parseFieldDescriptor (TX3 k).2.2.1 = some (tyX3 k) := by decide +kernel
abbrev cX3_init : ByteArray := prog_5_method_1_code
def yX3_init : MethodName := ⟨RX3, "<init>", "()V"⟩
abbrev cX3_add : ByteArray := prog_5_method_2_code
def yX3_add : MethodName := ⟨RX3, "add", "(II)I"⟩
abbrev cX3_isAnyUp : ByteArray := prog_5_method_3_code
def yX3_isAnyUp : MethodName := ⟨RX3, "isAnyUp", "()Z"⟩
def RX4 : String := "BundleLinks$Planner"
def TX4 : u_T := fun k => match k with
  | 0 => ("BundleLinks$Planner", "hasPlan", "Z", false)
  | 1 => ("BundleLinks$Planner", "latest", "[I", true)
  | 2 => ("BundleLinks$Planner", "links", "LBundleLinks$Links;", true)
  | 3 => ("BundleLinks$Planner", "buckets", "LBundleLinks$Buckets;", true)
  | 4 => ("BundleLinks$Planner", "flows", "LBundleLinks$Flows;", true)
  | 5 => ("BundleLinks$Planner", "weight", "[I", true)
  | 6 => ("BundleLinks$Planner", "load", "[I", true)
  | 7 => ("BundleLinks$Planner", "trial", "[I", true)
  | 8 => ("BundleLinks$Planner", "allSpeeds", "I", false)
  | 9 => ("BundleLinks$Planner", "allLoads", "I", false)
  | 10 => ("BundleLinks$Planner", "evenness", "I", false)
  | _ => ("BundleLinks$Planner", "fewest", "I", false)
def tyX4 : Nat → FieldType := fun k => match k with
  | 0 => .boolean
  | 1 => .array .int
  | 2 => .object "BundleLinks$Links"
  | 3 => .object "BundleLinks$Buckets"
  | 4 => .object "BundleLinks$Flows"
  | 5 => .array .int
  | 6 => .array .int
  | 7 => .array .int
  | 8 => .int
  | 9 => .int
  | 10 => .int
  | _ => .int
abbrev wsX40 : List Cond := u_ws RX4 TX4 12
theorem nmX4 : ∀ a, a < 12 → ∀ b, b < 12 → a ≠ b → (TX4 a).2.1 ≠ (TX4 b).2.1 := by decide +kernel
theorem tyX4_ok : ∀ k, k < 12 → parseFieldDescriptor (TX4 k).2.2.1 = some (tyX4 k) := by decide +kernel
abbrev cX4_init : ByteArray := prog_6_method_1_code
def yX4_init : MethodName := ⟨RX4, "<init>", "(LBundleLinks$Links;LBundleLinks$Buckets;LBundleLinks$Flows;)V"⟩
abbrev cX4_loadOf : ByteArray := prog_6_method_2_code
def yX4_loadOf : MethodName := ⟨RX4, "loadOf", "(I)I"⟩
abbrev cX4_isEven : ByteArray := prog_6_method_3_code
def yX4_isEven : MethodName := ⟨RX4, "isEven", "(I)Z"⟩
abbrev cX4_measure : ByteArray := prog_6_method_4_code
def yX4_measure : MethodName := ⟨RX4, "measure", "(I)V"⟩
abbrev cX4_isWithinShare : ByteArray := prog_6_method_5_code
def yX4_isWithinShare : MethodName := ⟨RX4, "isWithinShare", "(II)Z"⟩
abbrev cX4_fewestMoves : ByteArray := prog_6_method_6_code
def yX4_fewestMoves : MethodName := ⟨RX4, "fewestMoves", "(I)I"⟩
abbrev cX4_place : ByteArray := prog_6_method_7_code
def yX4_place : MethodName := ⟨RX4, "place", "(II)V"⟩
abbrev cX4_placeOn : ByteArray := prog_6_method_8_code
def yX4_placeOn : MethodName := ⟨RX4, "placeOn", "(III)V"⟩
abbrev cX4_keep : ByteArray := prog_6_method_9_code
def yX4_keep : MethodName := ⟨RX4, "keep", "(I)V"⟩
def RX5 : String := "BundleLinks$Traffic"
def TX5 : u_T := fun k => match k with
  | 0 => ("BundleLinks$Traffic", "time", "I", false)
  | 1 => ("BundleLinks$Traffic", "numbersOn", "Z", false)
  | 2 => ("BundleLinks$Traffic", "links", "LBundleLinks$Links;", true)
  | 3 => ("BundleLinks$Traffic", "buckets", "LBundleLinks$Buckets;", true)
  | 4 => ("BundleLinks$Traffic", "flows", "LBundleLinks$Flows;", true)
  | 5 => ("BundleLinks$Traffic", "letters", "LBundleLinks$Letters;", true)
  | _ => ("BundleLinks$Traffic", "blocked", "[Z", true)
def tyX5 : Nat → FieldType := fun k => match k with
  | 0 => .int
  | 1 => .boolean
  | 2 => .object "BundleLinks$Links"
  | 3 => .object "BundleLinks$Buckets"
  | 4 => .object "BundleLinks$Flows"
  | 5 => .object "BundleLinks$Letters"
  | _ => .array .boolean
abbrev wsX50 : List Cond := u_ws RX5 TX5 7
theorem nmX5 : ∀ a, a < 7 → ∀ b, b < 7 → a ≠ b → (TX5 a).2.1 ≠ (TX5 b).2.1 := by decide +kernel
theorem tyX5_ok : ∀ k, k < 7 → parseFieldDescriptor (TX5 k).2.2.1 = some (tyX5 k) := by decide +kernel
abbrev cX5_init : ByteArray := prog_7_method_1_code
def yX5_init : MethodName := ⟨RX5, "<init>", "(LBundleLinks$Links;LBundleLinks$Buckets;LBundleLinks$Flows;LBundleLinks$Letters;)V"⟩
abbrev cX5_post : ByteArray := prog_7_method_2_code
def yX5_post : MethodName := ⟨RX5, "post", "(I)V"⟩
abbrev cX5_enqueue : ByteArray := prog_7_method_3_code
def yX5_enqueue : MethodName := ⟨RX5, "enqueue", "(II)V"⟩
abbrev cX5_isBusy : ByteArray := prog_7_method_4_code
def yX5_isBusy : MethodName := ⟨RX5, "isBusy", "()Z"⟩
abbrev cX5_passTick : ByteArray := prog_7_method_5_code
def yX5_passTick : MethodName := ⟨RX5, "passTick", "()V"⟩
abbrev cX5_leave : ByteArray := prog_7_method_6_code
def yX5_leave : MethodName := ⟨RX5, "leave", "(I)V"⟩
abbrev cX5_arrive : ByteArray := prog_7_method_7_code
def yX5_arrive : MethodName := ⟨RX5, "arrive", "(I)V"⟩
abbrev cX5_letOutInOrder : ByteArray := prog_7_method_8_code
def yX5_letOutInOrder : MethodName := ⟨RX5, "letOutInOrder", "()V"⟩
abbrev cX5_letOut : ByteArray := prog_7_method_9_code
def yX5_letOut : MethodName := ⟨RX5, "letOut", "(I)V"⟩
abbrev cX5_startMove : ByteArray := prog_7_method_10_code
def yX5_startMove : MethodName := ⟨RX5, "startMove", "(III)Z"⟩
abbrev cX5_settle : ByteArray := prog_7_method_11_code
def yX5_settle : MethodName := ⟨RX5, "settle", "(I)V"⟩
abbrev cX5_mayReach : ByteArray := prog_7_method_12_code
def yX5_mayReach : MethodName := ⟨RX5, "mayReach", "(II)Z"⟩
abbrev cX5_reach : ByteArray := prog_7_method_13_code
def yX5_reach : MethodName := ⟨RX5, "reach", "(II)V"⟩
abbrev cX5_release : ByteArray := prog_7_method_14_code
def yX5_release : MethodName := ⟨RX5, "release", "(I)I"⟩
abbrev cX5_cancelMove : ByteArray := prog_7_method_15_code
def yX5_cancelMove : MethodName := ⟨RX5, "cancelMove", "(I)I"⟩
abbrev cX5_breakLink : ByteArray := prog_7_method_16_code
def yX5_breakLink : MethodName := ⟨RX5, "breakLink", "(I)I"⟩
abbrev cX5_loseLetters : ByteArray := prog_7_method_17_code
def yX5_loseLetters : MethodName := ⟨RX5, "loseLetters", "(I)I"⟩
abbrev cX5_upLinkWithFewestBuckets : ByteArray := prog_7_method_18_code
def yX5_upLinkWithFewestBuckets : MethodName := ⟨RX5, "upLinkWithFewestBuckets", "()I"⟩
abbrev cX5_takeIn : ByteArray := prog_7_method_19_code
def yX5_takeIn : MethodName := ⟨RX5, "takeIn", "(I)I"⟩
def RX6 : String := "BundleLinks"
def TX6 : u_T := fun k => match k with
  | 0 => ("BundleLinks", "links", "LBundleLinks$Links;", true)
  | 1 => ("BundleLinks", "buckets", "LBundleLinks$Buckets;", true)
  | 2 => ("BundleLinks", "flows", "LBundleLinks$Flows;", true)
  | 3 => ("BundleLinks", "letters", "LBundleLinks$Letters;", true)
  | 4 => ("BundleLinks", "traffic", "LBundleLinks$Traffic;", true)
  | _ => ("BundleLinks", "planner", "LBundleLinks$Planner;", true)
def tyX6 : Nat → FieldType := fun k => match k with
  | 0 => .object "BundleLinks$Links"
  | 1 => .object "BundleLinks$Buckets"
  | 2 => .object "BundleLinks$Flows"
  | 3 => .object "BundleLinks$Letters"
  | 4 => .object "BundleLinks$Traffic"
  | _ => .object "BundleLinks$Planner"
abbrev wsX60 : List Cond := u_ws RX6 TX6 6
theorem nmX6 : ∀ a, a < 6 → ∀ b, b < 6 → a ≠ b → (TX6 a).2.1 ≠ (TX6 b).2.1 := by decide +kernel
theorem tyX6_ok : ∀ k, k < 6 → parseFieldDescriptor (TX6 k).2.2.1 = some (tyX6 k) := by decide +kernel
abbrev cX6_init : ByteArray := prog_1_method_1_code
def yX6_init : MethodName := ⟨RX6, "<init>", "()V"⟩
abbrev cX6_link : ByteArray := prog_1_method_2_code
def yX6_link : MethodName := ⟨RX6, "link", "(II)I"⟩
abbrev cX6_flow : ByteArray := prog_1_method_3_code
def yX6_flow : MethodName := ⟨RX6, "flow", "(I)I"⟩
abbrev cX6_rate : ByteArray := prog_1_method_4_code
def yX6_rate : MethodName := ⟨RX6, "rate", "(II)I"⟩
abbrev cX6_pin : ByteArray := prog_1_method_5_code
def yX6_pin : MethodName := ⟨RX6, "pin", "(II)I"⟩
abbrev cX6_hash : ByteArray := prog_1_method_6_code
def yX6_hash : MethodName := ⟨RX6, "hash", "(II)I"⟩
abbrev cX6_numbers : ByteArray := prog_1_method_7_code
def yX6_numbers : MethodName := ⟨RX6, "numbers", "(Z)I"⟩
abbrev cX6_send : ByteArray := prog_1_method_8_code
def yX6_send : MethodName := ⟨RX6, "send", "(II)I"⟩
abbrev cX6_tick : ByteArray := prog_1_method_9_code
def yX6_tick : MethodName := ⟨RX6, "tick", "(I)I"⟩
abbrev cX6_move : ByteArray := prog_1_method_10_code
def yX6_move : MethodName := ⟨RX6, "move", "(III)I"⟩
abbrev cX6_drop : ByteArray := prog_1_method_11_code
def yX6_drop : MethodName := ⟨RX6, "drop", "(I)I"⟩
abbrev cX6_fail : ByteArray := prog_1_method_12_code
def yX6_fail : MethodName := ⟨RX6, "fail", "(I)I"⟩
abbrev cX6_back : ByteArray := prog_1_method_13_code
def yX6_back : MethodName := ⟨RX6, "back", "(I)I"⟩
abbrev cX6_letter : ByteArray := prog_1_method_14_code
def yX6_letter : MethodName := ⟨RX6, "letter", "(II)I"⟩
abbrev cX6_about : ByteArray := prog_1_method_15_code
def yX6_about : MethodName := ⟨RX6, "about", "(II)I"⟩
abbrev cX6_bucket : ByteArray := prog_1_method_16_code
def yX6_bucket : MethodName := ⟨RX6, "bucket", "(II)I"⟩
abbrev cX6_ofFlow : ByteArray := prog_1_method_17_code
def yX6_ofFlow : MethodName := ⟨RX6, "ofFlow", "(II)I"⟩
abbrev cX6_out : ByteArray := prog_1_method_18_code
def yX6_out : MethodName := ⟨RX6, "out", "(I)I"⟩
abbrev cX6_ordered : ByteArray := prog_1_method_19_code
def yX6_ordered : MethodName := ⟨RX6, "ordered", "(I)I"⟩
abbrev cX6_told : ByteArray := prog_1_method_20_code
def yX6_told : MethodName := ⟨RX6, "told", "(I)I"⟩
abbrev cX6_even : ByteArray := prog_1_method_21_code
def yX6_even : MethodName := ⟨RX6, "even", "(I)I"⟩
abbrev cX6_least : ByteArray := prog_1_method_22_code
def yX6_least : MethodName := ⟨RX6, "least", "(I)I"⟩
abbrev cX6_plan : ByteArray := prog_1_method_23_code
def yX6_plan : MethodName := ⟨RX6, "plan", "(I)I"⟩
abbrev cX6_isWithin : ByteArray := prog_1_method_24_code
def yX6_isWithin : MethodName := ⟨RX6, "isWithin", "(III)Z"⟩
abbrev cX6_isBelow : ByteArray := prog_1_method_25_code
def yX6_isBelow : MethodName := ⟨RX6, "isBelow", "(II)Z"⟩
abbrev cX6_oneIf : ByteArray := prog_1_method_26_code
def yX6_oneIf : MethodName := ⟨RX6, "oneIf", "(Z)I"⟩
def RX7 : String := "BundleLinksModel"
def TX7 : u_T := fun k => match k with
  | 0 => ("BundleLinksModel", "time", "I", false)
  | 1 => ("BundleLinksModel", "links", "I", false)
  | 2 => ("BundleLinksModel", "speed", "[I", true)
  | 3 => ("BundleLinksModel", "delay", "[I", true)
  | 4 => ("BundleLinksModel", "isUp", "[Z", true)
  | 5 => ("BundleLinksModel", "leftBy", "[I", true)
  | 6 => ("BundleLinksModel", "on", "[I", true)
  | 7 => ("BundleLinksModel", "to", "[I", true)
  | 8 => ("BundleLinksModel", "holds", "[Z", true)
  | 9 => ("BundleLinksModel", "moves", "[I", true)
  | 10 => ("BundleLinksModel", "flows", "I", false)
  | 11 => ("BundleLinksModel", "rate", "[I", true)
  | 12 => ("BundleLinksModel", "pinned", "[I", true)
  | 13 => ("BundleLinksModel", "times", "I", false)
  | 14 => ("BundleLinksModel", "plus", "I", false)
  | 15 => ("BundleLinksModel", "numbers", "Z", false)
  | 16 => ("BundleLinksModel", "letters", "I", false)
  | 17 => ("BundleLinksModel", "flowOf", "[I", true)
  | 18 => ("BundleLinksModel", "place", "[I", true)
  | 19 => ("BundleLinksModel", "bucketOf", "[I", true)
  | 20 => ("BundleLinksModel", "state", "[I", true)
  | 21 => ("BundleLinksModel", "linkOf", "[I", true)
  | 22 => ("BundleLinksModel", "sent", "[I", true)
  | 23 => ("BundleLinksModel", "left", "[I", true)
  | 24 => ("BundleLinksModel", "arrives", "[I", true)
  | 25 => ("BundleLinksModel", "done", "[I", true)
  | 26 => ("BundleLinksModel", "queueStamp", "[I", true)
  | 27 => ("BundleLinksModel", "leaveStamp", "[I", true)
  | 28 => ("BundleLinksModel", "stamp", "I", false)
  | 29 => ("BundleLinksModel", "outs", "I", false)
  | 30 => ("BundleLinksModel", "out", "[I", true)
  | 31 => ("BundleLinksModel", "hasPlan", "Z", false)
  | 32 => ("BundleLinksModel", "plan", "[I", true)
  | 33 => ("BundleLinksModel", "loads", "[I", true)
  | 34 => ("BundleLinksModel", "share", "[I", true)
  | _ => ("BundleLinksModel", "trial", "[I", true)
def tyX7 : Nat → FieldType := fun k => match k with
  | 0 => .int
  | 1 => .int
  | 2 => .array .int
  | 3 => .array .int
  | 4 => .array .boolean
  | 5 => .array .int
  | 6 => .array .int
  | 7 => .array .int
  | 8 => .array .boolean
  | 9 => .array .int
  | 10 => .int
  | 11 => .array .int
  | 12 => .array .int
  | 13 => .int
  | 14 => .int
  | 15 => .boolean
  | 16 => .int
  | 17 => .array .int
  | 18 => .array .int
  | 19 => .array .int
  | 20 => .array .int
  | 21 => .array .int
  | 22 => .array .int
  | 23 => .array .int
  | 24 => .array .int
  | 25 => .array .int
  | 26 => .array .int
  | 27 => .array .int
  | 28 => .int
  | 29 => .int
  | 30 => .array .int
  | 31 => .boolean
  | 32 => .array .int
  | 33 => .array .int
  | 34 => .array .int
  | _ => .array .int
abbrev wsX70 : List Cond := u_ws RX7 TX7 36
theorem nmX7 : ∀ a, a < 36 → ∀ b, b < 36 → a ≠ b → (TX7 a).2.1 ≠ (TX7 b).2.1 := by decide +kernel
theorem tyX7_ok : ∀ k, k < 36 → parseFieldDescriptor (TX7 k).2.2.1 = some (tyX7 k) := by decide +kernel
abbrev cX7_init : ByteArray := prog_9_method_1_code
def yX7_init : MethodName := ⟨RX7, "<init>", "()V"⟩
abbrev cX7_in : ByteArray := prog_9_method_2_code
def yX7_in : MethodName := ⟨RX7, "in", "(III)Z"⟩
abbrev cX7_isLink : ByteArray := prog_9_method_3_code
def yX7_isLink : MethodName := ⟨RX7, "isLink", "(I)Z"⟩
abbrev cX7_isFlow : ByteArray := prog_9_method_4_code
def yX7_isFlow : MethodName := ⟨RX7, "isFlow", "(I)Z"⟩
abbrev cX7_link : ByteArray := prog_9_method_5_code
def yX7_link : MethodName := ⟨RX7, "link", "(II)I"⟩
abbrev cX7_takes : ByteArray := prog_9_method_6_code
def yX7_takes : MethodName := ⟨RX7, "takes", "(I)I"⟩
abbrev cX7_lets : ByteArray := prog_9_method_7_code
def yX7_lets : MethodName := ⟨RX7, "lets", "(I)I"⟩
abbrev cX7_queue : ByteArray := prog_9_method_8_code
def yX7_queue : MethodName := ⟨RX7, "queue", "(II)V"⟩
abbrev cX7_flow : ByteArray := prog_9_method_9_code
def yX7_flow : MethodName := ⟨RX7, "flow", "(I)I"⟩
abbrev cX7_rate : ByteArray := prog_9_method_10_code
def yX7_rate : MethodName := ⟨RX7, "rate", "(II)I"⟩
abbrev cX7_bucketNow : ByteArray := prog_9_method_11_code
def yX7_bucketNow : MethodName := ⟨RX7, "bucketNow", "(I)I"⟩
abbrev cX7_hasOpen : ByteArray := prog_9_method_12_code
def yX7_hasOpen : MethodName := ⟨RX7, "hasOpen", "(I)Z"⟩
abbrev cX7_pin : ByteArray := prog_9_method_13_code
def yX7_pin : MethodName := ⟨RX7, "pin", "(II)I"⟩
abbrev cX7_hash : ByteArray := prog_9_method_14_code
def yX7_hash : MethodName := ⟨RX7, "hash", "(II)I"⟩
abbrev cX7_numbers : ByteArray := prog_9_method_15_code
def yX7_numbers : MethodName := ⟨RX7, "numbers", "(Z)I"⟩
abbrev cX7_held : ByteArray := prog_9_method_16_code
def yX7_held : MethodName := ⟨RX7, "held", "(I)I"⟩
abbrev cX7_ofFlowIn : ByteArray := prog_9_method_17_code
def yX7_ofFlowIn : MethodName := ⟨RX7, "ofFlowIn", "(II)I"⟩
abbrev cX7_send : ByteArray := prog_9_method_18_code
def yX7_send : MethodName := ⟨RX7, "send", "(II)I"⟩
abbrev cX7_firstQueued : ByteArray := prog_9_method_19_code
def yX7_firstQueued : MethodName := ⟨RX7, "firstQueued", "(I)I"⟩
abbrev cX7_firstArriving : ByteArray := prog_9_method_20_code
def yX7_firstArriving : MethodName := ⟨RX7, "firstArriving", "(I)I"⟩
abbrev cX7_comesOut : ByteArray := prog_9_method_21_code
def yX7_comesOut : MethodName := ⟨RX7, "comesOut", "(I)V"⟩
abbrev cX7_isNext : ByteArray := prog_9_method_22_code
def yX7_isNext : MethodName := ⟨RX7, "isNext", "(I)Z"⟩
abbrev cX7_tick1 : ByteArray := prog_9_method_23_code
def yX7_tick1 : MethodName := ⟨RX7, "tick1", "()V"⟩
abbrev cX7_tick : ByteArray := prog_9_method_24_code
def yX7_tick : MethodName := ⟨RX7, "tick", "(I)I"⟩
abbrev cX7_canCome : ByteArray := prog_9_method_25_code
def yX7_canCome : MethodName := ⟨RX7, "canCome", "(II)Z"⟩
abbrev cX7_settle : ByteArray := prog_9_method_26_code
def yX7_settle : MethodName := ⟨RX7, "settle", "(I)I"⟩
abbrev cX7_isBucket : ByteArray := prog_9_method_27_code
def yX7_isBucket : MethodName := ⟨RX7, "isBucket", "(I)Z"⟩
abbrev cX7_move : ByteArray := prog_9_method_28_code
def yX7_move : MethodName := ⟨RX7, "move", "(III)I"⟩
abbrev cX7_drop : ByteArray := prog_9_method_29_code
def yX7_drop : MethodName := ⟨RX7, "drop", "(I)I"⟩
abbrev cX7_bucketsOn : ByteArray := prog_9_method_30_code
def yX7_bucketsOn : MethodName := ⟨RX7, "bucketsOn", "(I)I"⟩
abbrev cX7_fail : ByteArray := prog_9_method_31_code
def yX7_fail : MethodName := ⟨RX7, "fail", "(I)I"⟩
abbrev cX7_back : ByteArray := prog_9_method_32_code
def yX7_back : MethodName := ⟨RX7, "back", "(I)I"⟩
abbrev cX7_letter : ByteArray := prog_9_method_33_code
def yX7_letter : MethodName := ⟨RX7, "letter", "(II)I"⟩
abbrev cX7_inState : ByteArray := prog_9_method_34_code
def yX7_inState : MethodName := ⟨RX7, "inState", "(II)I"⟩
abbrev cX7_rates : ByteArray := prog_9_method_35_code
def yX7_rates : MethodName := ⟨RX7, "rates", "(I)I"⟩
abbrev cX7_load : ByteArray := prog_9_method_36_code
def yX7_load : MethodName := ⟨RX7, "load", "(I)I"⟩
abbrev cX7_about : ByteArray := prog_9_method_37_code
def yX7_about : MethodName := ⟨RX7, "about", "(II)I"⟩
abbrev cX7_bucket : ByteArray := prog_9_method_38_code
def yX7_bucket : MethodName := ⟨RX7, "bucket", "(II)I"⟩
abbrev cX7_ofFlow : ByteArray := prog_9_method_39_code
def yX7_ofFlow : MethodName := ⟨RX7, "ofFlow", "(II)I"⟩
abbrev cX7_out : ByteArray := prog_9_method_40_code
def yX7_out : MethodName := ⟨RX7, "out", "(I)I"⟩
abbrev cX7_ordered : ByteArray := prog_9_method_41_code
def yX7_ordered : MethodName := ⟨RX7, "ordered", "(I)I"⟩
abbrev cX7_told : ByteArray := prog_9_method_42_code
def yX7_told : MethodName := ⟨RX7, "told", "(I)I"⟩
abbrev cX7_noneUp : ByteArray := prog_9_method_43_code
def yX7_noneUp : MethodName := ⟨RX7, "noneUp", "()Z"⟩
abbrev cX7_isEven : ByteArray := prog_9_method_44_code
def yX7_isEven : MethodName := ⟨RX7, "isEven", "(I)Z"⟩
abbrev cX7_even : ByteArray := prog_9_method_45_code
def yX7_even : MethodName := ⟨RX7, "even", "(I)I"⟩
abbrev cX7_nextUp : ByteArray := prog_9_method_46_code
def yX7_nextUp : MethodName := ⟨RX7, "nextUp", "(I)I"⟩
abbrev cX7_turns : ByteArray := prog_9_method_47_code
def yX7_turns : MethodName := ⟨RX7, "turns", "()Z"⟩
abbrev cX7_least : ByteArray := prog_9_method_48_code
def yX7_least : MethodName := ⟨RX7, "least", "(I)I"⟩
abbrev cX7_plan : ByteArray := prog_9_method_49_code
def yX7_plan : MethodName := ⟨RX7, "plan", "(I)I"⟩
def RJ9 : String := "java/lang/Math"
def TJ9 : u_T := fun k => match k with
  | _ => ("", "", "", false)
def tyJ9 : Nat → FieldType := fun k => match k with
  | _ => .int
abbrev wsJ90 : List Cond := u_ws RJ9 TJ9 0
theorem nmJ9 : ∀ a, a < 0 → ∀ b, b < 0 → a ≠ b → (TJ9 a).2.1 ≠ (TJ9 b).2.1 := by decide +kernel
theorem tyJ9_ok : ∀ k, k < 0 → parseFieldDescriptor (TJ9 k).2.2.1 = some (tyJ9 k) := by decide +kernel
abbrev cJ9_min_7cf53 : ByteArray := prog_10_method_69_code
def yJ9_min_7cf53 : MethodName := ⟨RJ9, "min", "(II)I"⟩
def RJ10 : String := "java/lang/System"
def TJ10 : u_T := fun k => match k with
  | _ => ("", "", "", false)
def tyJ10 : Nat → FieldType := fun k => match k with
  | _ => .int
abbrev wsJ100 : List Cond := u_ws RJ10 TJ10 0
theorem nmJ10 : ∀ a, a < 0 → ∀ b, b < 0 → a ≠ b → (TJ10 a).2.1 ≠ (TJ10 b).2.1 := by decide +kernel
theorem tyJ10_ok : ∀ k, k < 0 → parseFieldDescriptor (TJ10 k).2.2.1 = some (tyJ10 k) := by decide +kernel
def RL : String := "BundleLinksLaw"
abbrev cL_law : ByteArray := code
def yL_law : MethodName := ⟨RL, "law", "([I)Z"⟩
abbrev vwCl : List vw_C := [(RX0, TX0, 5), (RX1, TX1, 10), (RX2, TX2, 12), (RX3, TX3, 9), (RX4, TX4, 12), (RX5, TX5, 7), (RX6, TX6, 6), (RX7, TX7, 36)]
end
section
/-! The pure pictures: values by numbers of cells ('ids'), a memory of whole numbers, and the world of cells that it stands for. -/
abbrev PV : Type := Option (Int ⊕ (Nat ⊕ Int))
abbrev vI (x : Int) : PV := some (.inl x)
abbrev vR (r : Nat) : PV := some (.inr (.inl r))
abbrev vL (x : Int) : PV := some (.inr (.inr x))
abbrev Mem : Type := Nat → Int → Int
def mw (M : Mem) (r : Nat) (i v : Int) : Mem := fun a b => if a = r ∧ b = i then v else M a b
def rng (x : Int) : Prop := -2147483648 ≤ x ∧ x ≤ 2147483647
def cv (ad : Nat → Nat) (v : PV) : Value := match v with
  | some (.inl x) => .int (Int32.ofInt x)
  | some (.inr (.inl r)) => .ref (ad r)
  | some (.inr (.inr x)) => .long (Int64.ofInt x)
  | none => .null
/-- the cells: an object (its class's number; a field: a number, or the cell that it holds), or an array (0 ints, 1 booleans, from 2 on: rows that begin at that cell; its length) -/
abbrev Shp : Type := (Nat × List (Option Nat)) ⊕ (Nat × Nat)
def shL : List Shp := [/- 0 -/ .inl (6, [some 1, some 2, some 3, some 4, some 5, some 6]),
  /- 1 -/ .inl (3, [none, some 7, some 8, some 9, some 10, some 15, some 16, some 17, some 18]),
  /- 2 -/ .inl (0, [some 19, some 20, some 21, some 22, some 23]),
  /- 3 -/ .inl (1, [none, none, none, some 24, some 25, some 26, some 27, some 28, some 29, some 30]),
  /- 4 -/ .inl (2, [none, some 31, some 32, some 33, some 34, some 35, some 36, some 37, some 38, some 39, some 40, some 41]),
  /- 5 -/ .inl (5, [none, none, some 1, some 2, some 3, some 4, some 42]),
  /- 6 -/ .inl (4, [none, some 43, some 1, some 2, some 3, some 44, some 45, some 46, none, none, none, none]),
  /- 7 -/ .inr (0, 4),
  /- 8 -/ .inr (0, 4),
  /- 9 -/ .inr (1, 4),
  /- 10 -/ .inr (11, 4),
  /- 11 -/ .inr (0, 400),
  /- 12 -/ .inr (0, 400),
  /- 13 -/ .inr (0, 400),
  /- 14 -/ .inr (0, 400),
  /- 15 -/ .inr (0, 4),
  /- 16 -/ .inr (0, 4),
  /- 17 -/ .inr (0, 4),
  /- 18 -/ .inr (0, 4),
  /- 19 -/ .inr (0, 8),
  /- 20 -/ .inr (0, 8),
  /- 21 -/ .inr (1, 8),
  /- 22 -/ .inr (0, 8),
  /- 23 -/ .inr (0, 8),
  /- 24 -/ .inr (0, 16),
  /- 25 -/ .inr (0, 16),
  /- 26 -/ .inr (0, 16),
  /- 27 -/ .inr (0, 16),
  /- 28 -/ .inr (0, 16),
  /- 29 -/ .inr (0, 16),
  /- 30 -/ .inr (1, 16),
  /- 31 -/ .inr (0, 400),
  /- 32 -/ .inr (0, 400),
  /- 33 -/ .inr (0, 400),
  /- 34 -/ .inr (0, 400),
  /- 35 -/ .inr (0, 400),
  /- 36 -/ .inr (0, 400),
  /- 37 -/ .inr (0, 400),
  /- 38 -/ .inr (0, 400),
  /- 39 -/ .inr (0, 400),
  /- 40 -/ .inr (0, 400),
  /- 41 -/ .inr (0, 6),
  /- 42 -/ .inr (1, 16),
  /- 43 -/ .inr (0, 8),
  /- 44 -/ .inr (0, 8),
  /- 45 -/ .inr (0, 4),
  /- 46 -/ .inr (0, 8),
  /- 47 -/ .inl (7, [none, none, some 48, some 49, some 50, some 51, some 52, some 53, some 54, some 55, none, some 56, some 57, none, none, none, none, some 58, some 59, some 60, some 61, some 62, some 63, some 64, some 65, some 66, some 67, some 68, none, none, some 69, none, some 70, some 71, some 72, some 73]),
  /- 48 -/ .inr (0, 4),
  /- 49 -/ .inr (0, 4),
  /- 50 -/ .inr (1, 4),
  /- 51 -/ .inr (0, 4),
  /- 52 -/ .inr (0, 8),
  /- 53 -/ .inr (0, 8),
  /- 54 -/ .inr (1, 8),
  /- 55 -/ .inr (0, 8),
  /- 56 -/ .inr (0, 16),
  /- 57 -/ .inr (0, 16),
  /- 58 -/ .inr (0, 400),
  /- 59 -/ .inr (0, 400),
  /- 60 -/ .inr (0, 400),
  /- 61 -/ .inr (0, 400),
  /- 62 -/ .inr (0, 400),
  /- 63 -/ .inr (0, 400),
  /- 64 -/ .inr (0, 400),
  /- 65 -/ .inr (0, 400),
  /- 66 -/ .inr (0, 400),
  /- 67 -/ .inr (0, 400),
  /- 68 -/ .inr (0, 400),
  /- 69 -/ .inr (0, 400),
  /- 70 -/ .inr (0, 8),
  /- 71 -/ .inr (0, 4),
  /- 72 -/ .inr (0, 8),
  /- 73 -/ .inr (0, 8)]
def shf : List Shp → Nat → Option Shp
  | [], _ => none
  | a :: _, 0 => some a
  | _ :: l, n + 1 => shf l n
def shp (r : Nat) : Option Shp := shf shL r
abbrev Cs : Type := ClassId × ClassId × ClassId
def fvl (ad : Nat → Nat) (M : Mem) (r k : Nat) (o : Option Nat) : Value := match o with
  | none => .int (Int32.ofInt (M r k))
  | some q => .ref (ad q)
def cel (cs : Cs) (ad : Nat → Nat) (M : Mem) (r : Nat) (sh : Shp) : va_E := match sh with
  | .inl (ci, fs) => .inr (ci, fs.mapIdx (fun k o => fvl ad M r k o))
  | .inr (0, n) => .inl (cs.1, n, .inl (fun j => Int32.ofInt (M r j)))
  | .inr (1, n) => .inl (cs.2.1, n, .inl (fun j => Int32.ofInt (M r j)))
  | .inr (b + 2, n) => .inl (cs.2.2, n, .inr (.inr (.inr (.inr (fun j => some (ad (b + 2 + j)))))))
def wld (cs : Cs) (ad : Nat → Nat) (M : Mem) : va_W := shL.mapIdx (fun r sh => (ad r, cel cs ad M r sh))
theorem shf_eq : ∀ (l : List Shp) (r : Nat), shf l r = l[r]?
  | [], r => by simp [shf]
  | a :: l, 0 => by simp [shf]
  | a :: l, r + 1 => by simp [shf, shf_eq l r]
theorem wld_get {cs : Cs} {ad : Nat → Nat} {M : Mem} {r : Nat} {sh : Shp} (h : shp r = some sh) : (wld cs ad M)[r]? = some (ad r, cel cs ad M r sh) := by
  unfold shp at h
  rw [shf_eq] at h
  simp [wld, List.getElem?_mapIdx, h]
theorem wld_len (cs : Cs) (ad : Nat → Nat) (M : Mem) : (wld cs ad M).length = 74 := by simp [wld, shL]
theorem wld_at {cs : Cs} {ad : Nat → Nat} {M : Mem} {r : Nat} {q : Nat × va_E} (h : (wld cs ad M)[r]? = some q) : ∃ sh, shp r = some sh ∧ q = (ad r, cel cs ad M r sh) := by
  simp only [wld, List.getElem?_mapIdx, Option.map_eq_some_iff] at h
  obtain ⟨sh, h1, h2⟩ := h
  exact ⟨sh, by unfold shp; rw [shf_eq]; exact h1, h2.symm⟩
theorem mw_s (M : Mem) (r : Nat) (i v : Int) : mw M r i v r i = v := by simp [mw]
theorem mw_r (M : Mem) {r r' : Nat} (i v : Int) (h : r' ≠ r) : mw M r i v r' = M r' := by funext b; simp [mw, h]
theorem mw_i (M : Mem) (r : Nat) {i i' : Int} (v : Int) (h : i' ≠ i) : mw M r i v r i' = M r i' := by simp [mw, h]
theorem mw_e (M : Mem) (r : Nat) (i v : Int) (r' : Nat) (i' : Int) : mw M r i v r' i' = if r' = r ∧ i' = i then v else M r' i' := rfl
theorem cel_other {cs : Cs} {ad : Nat → Nat} {M : Mem} {r r' : Nat} {i v : Int} {sh : Shp} (h : r' ≠ r) : cel cs ad (mw M r i v) r' sh = cel cs ad M r' sh := by
  have e : mw M r i v r' = M r' := mw_r M i v h
  rcases sh with ⟨ci, fs⟩ | ⟨k, n⟩
  · simp [cel, fvl, e]
  · match k with
    | 0 => simp [cel, e]
    | 1 => simp [cel, e]
    | b + 2 => rfl
theorem wld_set {cs : Cs} {ad : Nat → Nat} {M : Mem} {r : Nat} {i v : Int} {sh : Shp} {E : va_E} (h : shp r = some sh) (hE : E = cel cs ad (mw M r i v) r sh) : (wld cs ad M).set r (ad r, E) = wld cs ad (mw M r i v) := by
  subst hE
  apply List.ext_getElem?
  intro k
  unfold shp at h
  rw [shf_eq] at h
  have hl : r < shL.length := (List.getElem?_eq_some_iff.mp h).1
  by_cases hk : k = r
  · subst hk
    rw [List.getElem?_set_self (by simpa [wld] using hl)]
    simp [wld, List.getElem?_mapIdx, h]
  · rw [List.getElem?_set_ne (fun q => hk q.symm)]
    simp only [wld, List.getElem?_mapIdx]
    cases shL[k]? with
    | none => rfl
    | some sh' => simp [cel_other hk]
/-- numbers between Int and the machine's -/
theorem i32_toInt {x : Int} (h : rng x) : (Int32.ofInt x).toInt = x := by
  unfold rng at h
  rw [Int32.toInt_ofInt]
  exact Int.bmod_eq_of_le_mul_two (by simp [Int32.size]; omega) (by simp [Int32.size]; omega)
theorem i32_of (x : Int32) : Int32.ofInt x.toInt = x := Int32.ofInt_toInt x
theorem rng_of (x : Int32) : rng x.toInt := ⟨Int32.le_toInt x, by have := Int32.toInt_lt x; omega⟩
theorem i32_le {x y : Int} (hx : rng x) (hy : rng y) : Int32.ofInt x ≤ Int32.ofInt y ↔ x ≤ y := by rw [Int32.le_iff_toInt_le, i32_toInt hx, i32_toInt hy]
theorem i32_lt {x y : Int} (hx : rng x) (hy : rng y) : Int32.ofInt x < Int32.ofInt y ↔ x < y := by rw [Int32.lt_iff_toInt_lt, i32_toInt hx, i32_toInt hy]
theorem i32_eq {x y : Int} (hx : rng x) (hy : rng y) : Int32.ofInt x = Int32.ofInt y ↔ x = y := ⟨fun h => by rw [← i32_toInt hx, ← i32_toInt hy, h], fun h => by rw [h]⟩
theorem i32_clamp {i : Int} (h0 : 0 ≤ i) (h1 : i ≤ 2147483647) : (Int32.ofInt i).toNatClampNeg = i.toNat := by
  show (Int32.ofInt i).toInt.toNat = i.toNat
  rw [i32_toInt ⟨by omega, h1⟩]
theorem i32_in {i : Int} {n : Nat} (h0 : 0 ≤ i) (h1 : i < n) (hn : n < 2147483648) : vp_in (Int32.ofInt i) n := by
  rw [vp_in_iff, i32_toInt ⟨by omega, by omega⟩]
  exact ⟨h0, h1⟩
theorem rng_0 : rng 0 := ⟨by decide, by decide⟩
theorem i64_toInt {x : Int} (h0 : -9223372036854775808 ≤ x) (h1 : x ≤ 9223372036854775807) : (Int64.ofInt x).toInt = x := by
  rw [Int64.toInt_ofInt]
  exact Int.bmod_eq_of_le_mul_two (by simp [Int64.size]; omega) (by simp [Int64.size]; omega)
theorem upd_mw {M : Mem} {r : Nat} {i v : Int} (h0 : 0 ≤ i) (h1 : i ≤ 2147483647) : upd (fun j : Nat => Int32.ofInt (M r j)) (Int32.ofInt i).toNatClampNeg (Int32.ofInt v) = fun j : Nat => Int32.ofInt (mw M r i v r j) := by
  funext j
  rw [i32_clamp h0 h1]
  unfold upd mw
  by_cases hj : j = i.toNat
  · have : (j : Int) = i := by omega
    rw [if_pos hj, if_pos ⟨rfl, this⟩]
  · have : ¬ (j : Int) = i := by omega
    rw [if_neg hj, if_neg (fun q => this q.2)]
theorem obj_mw {ad : Nat → Nat} {M : Mem} {r k : Nat} {v : Int} {fs : List (Option Nat)} (hk : fs[k]? = some none) : (fs.mapIdx (fun j o => fvl ad M r j o)).set k (.int (Int32.ofInt v)) = fs.mapIdx (fun j o => fvl ad (mw M r k v) r j o) := by
  apply List.ext_getElem?
  intro j
  have hl : k < fs.length := (List.getElem?_eq_some_iff.mp hk).1
  by_cases hj : j = k
  · subst hj
    rw [List.getElem?_set_self (by simpa using hl)]
    simp [List.getElem?_mapIdx, hk, fvl, mw]
  · rw [List.getElem?_set_ne (fun q => hj q.symm)]
    simp only [List.getElem?_mapIdx]
    cases fs[j]? with
    | none => rfl
    | some o =>
      have : ¬ (j : Int) = (k : Int) := by omega
      cases o <;> simp [fvl, mw, this]
end
section
/-! A method's frame over the pure pictures: what it must know of the machine (gC), what 'from here it comes to Post' says (gV), a call's contract (gOk). -/
/-- the tables' words that last -/
def lw_g : List Cond := lw_tbl.filter goodWord
theorem lw_gm {w : Cond} (i : Nat) (h : lw_tbl[i]? = some w) (hg : goodWord w = true) : w ∈ lw_g := List.mem_filter.mpr ⟨List.mem_of_getElem? h, hg⟩
/-- a row of a method's code: its pc, the next pc, where it jumps to (0: nowhere), the instruction -/
abbrev Row : Type := Nat × Nat × Nat × Instr
/-- a method: name, code, locals, answer's type; its class's field entries (index of the pool, class's number, field's place, 0 int 1 boolean 2 reference); its rows -/
abbrev Mt : Type := MethodName × ByteArray × Nat × Option FieldType × List (Nat × Nat × Nat × Nat) × List Row
def jmp (pc tgt : Nat) (ins : Instr) : Bool := match ins with
  | .goto off => decide ((pc : Int) + off = (tgt : Int))
  | .if_icmp _ off => decide ((pc : Int) + off = (tgt : Int))
  | .ifCond _ off => decide ((pc : Int) + off = (tgt : Int))
  | .bipush n => decide ((Int8.ofInt n).toInt32 = Int32.ofInt n)
  | .sipush n => decide ((Int16.ofInt n).toInt32 = Int32.ofInt n)
  | _ => true
def iln (pc nx : Nat) (ins : Instr) : Nat := match ins with
  | .bipush _ => 2
  | .iload _ => 2
  | .istore _ => 2
  | .aload _ => 2
  | .sipush _ => 3
  | .getfield _ => 3
  | .putfield _ => 3
  | .iinc _ _ => 3
  | .goto _ => 3
  | .if_icmp _ _ => 3
  | .ifCond _ _ => 3
  | .invokevirtual _ => 3
  | .invokestatic _ => 3
  | .invokespecial _ => 3
  | .ldc2_w _ => 3
  | .new _ => 3
  | .tableswitch _ _ _ _ => nx - pc
  | _ => 1
abbrev rowOk (cc : ByteArray) (e : Row) : Prop := decode cc e.1 = .ok (e.2.2.2, iln e.1 e.2.1 e.2.2.2) ∧ e.2.1 = e.1 + iln e.1 e.2.1 e.2.2.2 ∧ jmp e.1 e.2.2.1 e.2.2.2 = true
def fldOk (own : String) (f : Nat × Nat × Nat × Nat) : Prop := ∃ (C : String) (T : u_T) (N : Nat), vwCl[f.2.1]? = some (C, T, N) ∧ f.2.2.1 < N ∧ Cond.fieldLink own f.1 (T f.2.2.1).1 (T f.2.2.1).2.1 (T f.2.2.1).2.2.1 ∈ lw_g ∧ (f.2.2.2 = 0 → (T f.2.2.1).2.2.1 = "I" ∧ (T f.2.2.1).2.2.2 = false) ∧ (f.2.2.2 = 1 → (T f.2.2.1).2.2.1 = "Z" ∧ (T f.2.2.1).2.2.2 = false)
def mtOk (mt : Mt) : Prop := plainName mt.1.cls = true ∧ (∀ e ∈ mt.2.2.2.2.2, rowOk mt.2.1 e) ∧ (∀ f ∈ mt.2.2.2.2.1, fldOk mt.1.cls f) ∧ mt.2.2.1 ≤ 20 ∧ Cond.code mt.1 mt.2.1 mt.2.2.1 mt.2.2.2.1 ∈ lw_g
def lk (pc : Nat) : List Row → Option (Nat × Nat × Instr)
  | [] => none
  | e :: l => bif Nat.beq e.1 pc then some e.2 else lk pc l
theorem lk_mem {pc : Nat} {x : Nat × Nat × Instr} : ∀ {l : List Row}, lk pc l = some x → (pc, x) ∈ l
  | [], h => by cases h
  | e :: l, h => by
    unfold lk at h
    cases hb : Nat.beq e.1 pc with
    | true =>
      rw [hb] at h
      have h1 : e.2 = x := Option.some.inj h
      have h2 : e.1 = pc := Nat.eq_of_beq_eq_true hb
      rw [← h1, ← h2]
      exact List.mem_cons_self
    | false =>
      rw [hb] at h
      exact List.mem_cons_of_mem _ (lk_mem h)
def fk (ix : Nat) : List (Nat × Nat × Nat × Nat) → Option (Nat × Nat × Nat)
  | [] => none
  | e :: l => bif Nat.beq e.1 ix then some e.2 else fk ix l
theorem fk_mem {ix : Nat} {x : Nat × Nat × Nat} : ∀ {l : List (Nat × Nat × Nat × Nat)}, fk ix l = some x → (ix, x) ∈ l
  | [], h => by cases h
  | e :: l, h => by
    unfold fk at h
    cases hb : Nat.beq e.1 ix with
    | true =>
      rw [hb] at h
      have h1 : e.2 = x := Option.some.inj h
      have h2 : e.1 = ix := Nat.eq_of_beq_eq_true hb
      rw [← h1, ← h2]
      exact List.mem_cons_self
    | false =>
      rw [hb] at h
      exact List.mem_cons_of_mem _ (fk_mem h)
def nth : List PV → Nat → PV
  | [], _ => none
  | v :: _, 0 => v
  | _ :: l, n + 1 => nth l n
/-- a place is set; what goes on sees the list itself -/
def stk {α : Type} : List PV → Nat → PV → (List PV → Option α) → Option α
  | [], _, _, _ => none
  | _ :: l, 0, v, k => k (v :: l)
  | a :: l, n + 1, v, k => stk l n v (fun l' => k (a :: l'))
theorem nth_eq : ∀ (l : List PV) (k : Nat) (v : Int ⊕ (Nat ⊕ Int)), nth l k = some v → l[k]? = some (some v)
  | [], k, v, h => by cases h
  | a :: l, 0, v, h => by simpa [nth] using h
  | a :: l, k + 1, v, h => by simpa using nth_eq l k v h
theorem stk_eq {α : Type} {x : α} : ∀ (l : List PV) (n : Nat) (v : PV) (k : List PV → Option α), stk l n v k = some x → n < l.length ∧ k (l.set n v) = some x
  | [], n, v, k, h => by cases h
  | a :: l, 0, v, k, h => ⟨by simp, h⟩
  | a :: l, n + 1, v, k, h => by
    have := stk_eq l n v (fun l' => k (a :: l')) h
    exact ⟨by simp; exact this.1, by simpa using this.2⟩
/-- the listed locals -/
def lal (ad : Nat → Nat) (lv : List PV) : List (Nat × Value) := (lv.mapIdx (fun k v => (k, v))).filterMap (fun q => match q.2 with
  | some (.inl x) => some (q.1, .int (Int32.ofInt x))
  | some (.inr (.inl r)) => some (q.1, .ref (ad r))
  | _ => none)
theorem lal_mem {ad : Nat → Nat} {lv : List PV} {k : Nat} {w : Value} : (k, w) ∈ lal ad lv ↔ (∃ x, lv[k]? = some (vI x) ∧ w = .int (Int32.ofInt x)) ∨ (∃ r, lv[k]? = some (vR r) ∧ w = .ref (ad r)) := by
  unfold lal
  rw [List.mem_filterMap]
  constructor
  · rintro ⟨⟨j, v⟩, h1, h2⟩
    have h3 : lv[j]? = some v := by
      obtain ⟨i, hi⟩ := List.getElem?_of_mem h1
      simp only [List.getElem?_mapIdx, Option.map_eq_some_iff, Prod.mk.injEq] at hi
      obtain ⟨z, h4, rfl, rfl⟩ := hi
      exact h4
    rcases v with _ | x | r | x
    · simp at h2
    · simp at h2
      obtain ⟨rfl, rfl⟩ := h2
      exact Or.inl ⟨x, h3, rfl⟩
    · simp at h2
      obtain ⟨rfl, rfl⟩ := h2
      exact Or.inr ⟨r, h3, rfl⟩
    · simp at h2
  · rintro (⟨x, h1, rfl⟩ | ⟨r, h1, rfl⟩)
    · refine ⟨(k, vI x), ?_, rfl⟩
      refine List.mem_of_getElem? (i := k) ?_
      simp [List.getElem?_mapIdx, h1]
    · refine ⟨(k, vR r), ?_, rfl⟩
      refine List.mem_of_getElem? (i := k) ?_
      simp [List.getElem?_mapIdx, h1]
def gL (ad : Nat → Nat) (ls : Array Slot) (nL : Nat) (lv : List PV) : Prop := lv.length ≤ nL ∧ lv_has ls nL (lal ad lv)
theorem gL_int {ad : Nat → Nat} {ls : Array Slot} {nL k : Nat} {lv : List PV} {x : Int} (h : gL ad ls nL lv) (hk : nth lv k = vI x) : ls[k]? = some (.val (.int (Int32.ofInt x))) :=
  h.2.2.2 (k, _) (lal_mem.mpr (Or.inl ⟨x, nth_eq _ _ _ hk, rfl⟩))
theorem gL_ref {ad : Nat → Nat} {ls : Array Slot} {nL k : Nat} {lv : List PV} {r : Nat} (h : gL ad ls nL lv) (hk : nth lv k = vR r) : ls[k]? = some (.val (.ref (ad r))) :=
  h.2.2.2 (k, _) (lal_mem.mpr (Or.inr ⟨r, nth_eq _ _ _ hk, rfl⟩))
theorem gL_set {ad : Nat → Nat} {ls ls' : Array Slot} {nL k : Nat} {lv : List PV} {x : Int} (h : gL ad ls nL lv) (hk : k < lv.length) (h' : lv_has ls' nL ((k, Value.int (Int32.ofInt x)) :: (lal ad lv).filter (fun q => !(q.1 == k) && !(q.1 + 1 == k && q.2.category == 2)))) : gL ad ls' nL (lv.set k (vI x)) := by
  refine ⟨by simpa using h.1, h'.1, h'.2.1, ?_⟩
  rintro ⟨j, w⟩ hq
  refine h'.2.2 (j, w) ?_
  by_cases hj : j = k
  · subst hj
    rw [lal_mem, List.getElem?_set_self hk] at hq
    rcases hq with ⟨y, h1, rfl⟩ | ⟨r, h1, rfl⟩
    · cases h1
      exact List.mem_cons_self
    · cases h1
  · rw [lal_mem, List.getElem?_set_ne (fun q => hj q.symm)] at hq
    refine List.mem_cons_of_mem _ (List.mem_filter.mpr ⟨lal_mem.mpr hq, ?_⟩)
    rcases hq with ⟨y, h1, rfl⟩ | ⟨r, h1, rfl⟩ <;> simp [hj, Value.category]
/-- what a value pushes -/
def rp (r : PV) (st : List PV) : List PV := match r with
  | none => st
  | some v => some v :: st
def rv (ad : Nat → Nat) (r : PV) : Option Value := match r with
  | none => none
  | some v => some (cv ad (some v))
/-- the answer is of the method's type -/
def rOk (ret : Option FieldType) (r : PV) : Prop := match ret, r with
  | none, none => True
  | some .int, some (.inl _) => True
  | some .boolean, some (.inl x) => x = 0 ∨ x = 1
  | _, _ => False
def gTys (cs : Cs) : List (ClassId × FieldType) := [(cs.1, .int), (cs.2.1, .boolean), (cs.2.2, .array .int)]
section GG
variable (p : Program) (l : Launch) (e : Env) (R : Room) (s : State) (m : MethodId) (args : Array Value) (below : List Frame) (meth : Method) (c : Code) (cells slots : Nat) (Q : State → Prop) (D : va_G) (ad : Nat → Nat) (A : Nat → Prop) (H0 : Heap) (cs : Cs)
def gC (mt : Mt) (d : Nat) (Post : PV → Mem → Prop) : Prop :=
  p.tables.exec = Jvm.exec ∧ c.code = mt.2.1 ∧ c.maxLocals = mt.2.2.1 ∧ s.vm.findClass mt.1.cls = some m.cls ∧ (∀ w ∈ lw_g, w.before args s = true) ∧ va_K D vwCl (gTys cs) s ∧ (∀ M, va_D A (wld cs ad M)) ∧
  (d ≤ R.frames ∧ 40 * d ≤ R.locals ∧ cells ≤ R.cells ∧ slots ≤ R.slots) ∧ mtOk mt ∧
  (∀ (r : PV) (M : Mem) (pc : Nat) (H : Heap) (locs : List Loc) (ls : Array Slot), Post r M → rOk mt.2.2.2.1 r → va_P D vwCl (wld cs ad M) H → va_S A H0 H locs → decode mt.2.1 pc = .ok (match r with | none => .return_ | some _ => .ireturn, 1) →
    W p l e R s m args below meth c H locs cells slots Q (F0 m pc ls ((rp r []).map (cv ad))))
end GG
def gV (mt : Mt) (d : Nat) (Post : PV → Mem → Prop) (pc : Nat) (lv st : List PV) (M : Mem) : Prop :=
  ∀ (p : Program) (l : Launch) (e : Env) (R : Room) (s : State) (m : MethodId) (args : Array Value) (below : List Frame) (meth : Method) (c : Code) (cells slots : Nat) (Q : State → Prop) (D : va_G) (ad : Nat → Nat) (A : Nat → Prop) (H0 : Heap) (cs : Cs),
    gC p l e R s m args below meth c cells slots Q D ad A H0 cs mt d Post → ∀ (H : Heap) (locs : List Loc) (ls : Array Slot), va_P D vwCl (wld cs ad M) H → va_S A H0 H locs → gL ad ls mt.2.2.1 lv →
      W p l e R s m args below meth c H locs cells slots Q (F0 m pc ls (st.map (cv ad)))
def gW (cs : Cs) (D : va_G) (ad : Nat → Nat) (as : List PV) (M : Mem) (v : Array Value) (U : State) : Prop := v = (as.map (cv ad)).toArray ∧ va_P D vwCl (wld cs ad M) U.heap ∧ va_K D vwCl (gTys cs) U ∧ va_D (fun _ => True) (wld cs ad M)
def gF (ad : Nat → Nat) (q : Nat) : Prop := ∃ k, k < 74 ∧ q = ad k
def gQ (cs : Cs) (D : va_G) (ad : Nat → Nat) (Post : PV → Mem → Prop) (_ : Array Value) (st : State) (oc : Outcome) (t : State) : Prop := (∃ (r : PV) (M : Mem), oc = .returned (rv ad r) ∧ Post r M ∧ va_P D vwCl (wld cs ad M) t.heap) ∧ va_F (gF ad) st t
def gRoom (d : Nat) : Room := { frames := d, cells := 0, slots := 0, locals := 40 * d }
def gOk (mt : Mt) (d : Nat) (as : List PV) (M : Mem) (Post : PV → Mem → Prop) : Prop :=
  ∀ (l : Launch) (cs : Cs) (D : va_G) (ad : Nat → Nat), Met l mt.1 (Cond.code mt.1 mt.2.1 mt.2.2.1 mt.2.2.2.1 :: lw_g) (gRoom d) (gW cs D ad as M) (gQ cs D ad Post) 0 0 (gF ad)
theorem gV_mono {mt : Mt} {d : Nat} {P P' : PV → Mem → Prop} {pc : Nat} {lv st : List PV} {M : Mem} (h : gV mt d P pc lv st M) (hP : ∀ r M, P r M → P' r M) : gV mt d P' pc lv st M := by
  intro p l e R s m args below meth c cells slots Q D ad A H0 cs C
  obtain ⟨c1, c2, c3, c4, c5, c6, c7, c8, c9, c10⟩ := C
  exact h p l e R s m args below meth c cells slots Q D ad A H0 cs ⟨c1, c2, c3, c4, c5, c6, c7, c8, c9, fun r M pc H locs ls q => c10 r M pc H locs ls (hP r M q)⟩
end
section
/-! One instruction: what it does to the pure picture (ps), with what it asks; a branch (pb). Then: the machine does so. -/
theorem cl0 : ∀ w ∈ u_ws RX0 TX0 5, w ∈ lw_g := by decide +kernel
theorem cl1 : ∀ w ∈ u_ws RX1 TX1 10, w ∈ lw_g := by decide +kernel
theorem cl2 : ∀ w ∈ u_ws RX2 TX2 12, w ∈ lw_g := by decide +kernel
theorem cl3 : ∀ w ∈ u_ws RX3 TX3 9, w ∈ lw_g := by decide +kernel
theorem cl4 : ∀ w ∈ u_ws RX4 TX4 12, w ∈ lw_g := by decide +kernel
theorem cl5 : ∀ w ∈ u_ws RX5 TX5 7, w ∈ lw_g := by decide +kernel
theorem cl6 : ∀ w ∈ u_ws RX6 TX6 6, w ∈ lw_g := by decide +kernel
theorem cl7 : ∀ w ∈ u_ws RX7 TX7 36, w ∈ lw_g := by decide +kernel
theorem clOk : ∀ (ci : Nat) (C : String) (T : u_T) (N : Nat), vwCl[ci]? = some (C, T, N) → (∀ w ∈ u_ws C T N, w ∈ lw_g) ∧ ∃ ty0 : Nat → FieldType, (∀ k, k < N → parseFieldDescriptor (T k).2.2.1 = some (ty0 k)) ∧ ∀ a, a < N → ∀ b, b < N → a ≠ b → (T a).2.1 ≠ (T b).2.1
  | 0, _, _, _, h => by cases h; exact ⟨cl0, tyX0, tyX0_ok, nmX0⟩
  | 1, _, _, _, h => by cases h; exact ⟨cl1, tyX1, tyX1_ok, nmX1⟩
  | 2, _, _, _, h => by cases h; exact ⟨cl2, tyX2, tyX2_ok, nmX2⟩
  | 3, _, _, _, h => by cases h; exact ⟨cl3, tyX3, tyX3_ok, nmX3⟩
  | 4, _, _, _, h => by cases h; exact ⟨cl4, tyX4, tyX4_ok, nmX4⟩
  | 5, _, _, _, h => by cases h; exact ⟨cl5, tyX5, tyX5_ok, nmX5⟩
  | 6, _, _, _, h => by cases h; exact ⟨cl6, tyX6, tyX6_ok, nmX6⟩
  | 7, _, _, _, h => by cases h; exact ⟨cl7, tyX7, tyX7_ok, nmX7⟩
  | ci + 8, _, _, _, h => by simp at h
abbrev Cf : Type := Nat × List PV × List PV × Mem
def nO : List (Option Nat) → Nat → Option (Option Nat)
  | [], _ => none
  | a :: _, 0 => some a
  | _ :: l, n + 1 => nO l n
theorem nO_eq : ∀ (l : List (Option Nat)) (k : Nat), nO l k = l[k]?
  | [], k => by simp [nO]
  | a :: l, 0 => by simp [nO]
  | a :: l, k + 1 => by simp [nO, nO_eq l k]
def psGet (mt : Mt) (nx ix : Nat) (lv rest : List PV) (r : Nat) (M : Mem) : Option (Cf × Prop) :=
  match fk ix mt.2.2.2.2.1 with
  | some (ci, k, _) => match shp r with
    | some (.inl (ci', fs)) => bif Nat.beq ci ci' then (match nO fs k with
      | some none => some ((nx, lv, vI (M r k) :: rest, M), True)
      | some (some q) => some ((nx, lv, vR q :: rest, M), True)
      | none => none) else none
    | _ => none
  | none => none
def psPut (mt : Mt) (nx ix : Nat) (lv rest : List PV) (r : Nat) (v : Int) (M : Mem) : Option (Cf × Prop) :=
  match fk ix mt.2.2.2.2.1 with
  | some (ci, k, tc) => match shp r with
    | some (.inl (ci', fs)) => bif Nat.beq ci ci' then (match nO fs k with
      | some none => match tc with
        | 0 => some ((nx, lv, rest, mw M r k v), True)
        | 1 => some ((nx, lv, rest, mw M r k v), v = 0 ∨ v = 1)
        | _ => none
      | _ => none) else none
    | _ => none
  | none => none
def ps (mt : Mt) (pc : Nat) (lv st : List PV) (M : Mem) : Option (Cf × Prop) :=
  match lk pc mt.2.2.2.2.2 with
  | none => none
  | some (nx, tg, ins) => match ins with
    | .iload_n k => match nth lv k with
      | some (.inl x) => some ((nx, lv, vI x :: st, M), True)
      | _ => none
    | .iload k => match nth lv k with
      | some (.inl x) => some ((nx, lv, vI x :: st, M), True)
      | _ => none
    | .aload_n k => match nth lv k with
      | some (.inr (.inl r)) => some ((nx, lv, vR r :: st, M), True)
      | _ => none
    | .aload k => match nth lv k with
      | some (.inr (.inl r)) => some ((nx, lv, vR r :: st, M), True)
      | _ => none
    | .iconst n => some ((nx, lv, vI n :: st, M), True)
    | .bipush n => some ((nx, lv, vI n :: st, M), True)
    | .sipush n => some ((nx, lv, vI n :: st, M), True)
    | .istore_n k => match st with
      | some (.inl x) :: rest => stk lv k (vI x) (fun lv' => some ((nx, lv', rest, M), True))
      | _ => none
    | .istore k => match st with
      | some (.inl x) :: rest => stk lv k (vI x) (fun lv' => some ((nx, lv', rest, M), True))
      | _ => none
    | .iinc k n => match nth lv k with
      | some (.inl x) => stk lv k (vI (x + n)) (fun lv' => some ((nx, lv', st, M), True))
      | _ => none
    | .goto _ => some ((tg, lv, st, M), True)
    | .dup => match st with
      | some (.inl x) :: rest => some ((nx, lv, vI x :: vI x :: rest, M), True)
      | some (.inr (.inl r)) :: rest => some ((nx, lv, vR r :: vR r :: rest, M), True)
      | _ => none
    | .dup2 => match st with
      | some (.inl x) :: some (.inl y) :: rest => some ((nx, lv, vI x :: vI y :: vI x :: vI y :: rest, M), True)
      | some (.inl x) :: some (.inr (.inl r)) :: rest => some ((nx, lv, vI x :: vR r :: vI x :: vR r :: rest, M), True)
      | _ => none
    | .pop => match st with
      | some (.inl _) :: rest => some ((nx, lv, rest, M), True)
      | _ => none
    | .iadd => match st with
      | some (.inl y) :: some (.inl x) :: rest => some ((nx, lv, vI (x + y) :: rest, M), True)
      | _ => none
    | .isub => match st with
      | some (.inl y) :: some (.inl x) :: rest => some ((nx, lv, vI (x - y) :: rest, M), True)
      | _ => none
    | .imul => match st with
      | some (.inl y) :: some (.inl x) :: rest => some ((nx, lv, vI (x * y) :: rest, M), True)
      | _ => none
    | .irem => match st with
      | some (.inl y) :: some (.inl x) :: rest => some ((nx, lv, vI (x % y) :: rest, M), 0 ≤ x ∧ x ≤ 2147483647 ∧ 0 < y ∧ y ≤ 2147483647)
      | _ => none
    | .i2l => match st with
      | some (.inl x) :: rest => some ((nx, lv, vL x :: rest, M), rng x)
      | _ => none
    | .lmul => match st with
      | some (.inr (.inr y)) :: some (.inr (.inr x)) :: rest => some ((nx, lv, vL (x * y) :: rest, M), True)
      | _ => none
    | .ladd => match st with
      | some (.inr (.inr y)) :: some (.inr (.inr x)) :: rest => some ((nx, lv, vL (x + y) :: rest, M), True)
      | _ => none
    | .getfield ix => match st with
      | some (.inr (.inl r)) :: rest => psGet mt nx ix lv rest r M
      | _ => none
    | .putfield ix => match st with
      | some (.inl v) :: some (.inr (.inl r)) :: rest => psPut mt nx ix lv rest r v M
      | _ => none
    | .iaload => match st with
      | some (.inl i) :: some (.inr (.inl r)) :: rest => match shp r with
        | some (.inr (0, n)) => some ((nx, lv, vI (M r i) :: rest, M), 0 ≤ i ∧ i < n)
        | _ => none
      | _ => none
    | .baload => match st with
      | some (.inl i) :: some (.inr (.inl r)) :: rest => match shp r with
        | some (.inr (1, n)) => some ((nx, lv, vI (M r i) :: rest, M), 0 ≤ i ∧ i < n)
        | _ => none
      | _ => none
    | .aaload => match st with
      | some (.inl i) :: some (.inr (.inl r)) :: rest => match shp r with
        | some (.inr (b + 2, n)) => some ((nx, lv, vR (b + 2 + i.toNat) :: rest, M), 0 ≤ i ∧ i < n)
        | _ => none
      | _ => none
    | .iastore => match st with
      | some (.inl v) :: some (.inl i) :: some (.inr (.inl r)) :: rest => match shp r with
        | some (.inr (0, n)) => some ((nx, lv, rest, mw M r i v), 0 ≤ i ∧ i < n)
        | _ => none
      | _ => none
    | .bastore => match st with
      | some (.inl v) :: some (.inl i) :: some (.inr (.inl r)) :: rest => match shp r with
        | some (.inr (1, n)) => some ((nx, lv, rest, mw M r i v), (0 ≤ i ∧ i < n) ∧ (v = 0 ∨ v = 1))
        | _ => none
      | _ => none
    | _ => none
def pbc (op : Jvm.ClassFile.Cond) (x y : Int) : Prop := match op with
  | .eq => x = y
  | .ne => ¬ x = y
  | .lt => x < y
  | .ge => y ≤ x
  | .gt => y < x
  | .le => x ≤ y
def pb (mt : Mt) (pc : Nat) (st : List PV) : Option ((Nat × Nat × List PV) × Prop × Prop) :=
  match lk pc mt.2.2.2.2.2 with
  | none => none
  | some (nx, tg, ins) => match ins with
    | .if_icmp op _ => match st with
      | some (.inl y) :: some (.inl x) :: rest => some ((tg, nx, rest), rng x ∧ rng y, pbc op x y)
      | _ => none
    | .ifCond op _ => match st with
      | some (.inl x) :: rest => some ((tg, nx, rest), rng x, pbc op x 0)
      | _ => none
    | _ => none
end
section
/-! The machine does what ps and pb say. -/
theorem row_of {mt : Mt} (h : mtOk mt) {pc nx tg : Nat} {ins : Instr} (hl : lk pc mt.2.2.2.2.2 = some (nx, tg, ins)) : decode mt.2.1 pc = .ok (ins, iln pc nx ins) ∧ nx = pc + iln pc nx ins ∧ jmp pc tg ins = true := by
  have h1 : rowOk mt.2.1 (pc, nx, tg, ins) := h.2.1 (pc, nx, tg, ins) (lk_mem hl)
  unfold rowOk at h1
  exact h1
section GS
variable {mt : Mt} {d : Nat} {P : PV → Mem → Prop} {pc nx tg : Nat} {lv st rest : List PV} {M : Mem}
theorem gV_iload_n {k : Fin 4} {x : Int} (hl : lk pc mt.2.2.2.2.2 = some (nx, tg, .iload_n k)) (hn : nth lv k = vI x) (kk : gV mt d P nx lv (vI x :: st) M) : gV mt d P pc lv st M := by
  intro p l e R s m args below meth c cells slots Q D ad A H0 cs C H locs ls hP hS hL
  have C' := C
  obtain ⟨c1, c2, c3, c4, c5, c6, c7, c8, c9, c10⟩ := C
  obtain ⟨r1, r2, r3⟩ := row_of c9 hl
  dsimp only [iln] at r1 r2
  subst r2
  exact lv_iload_n c1 c2 r1 rfl (gL_int hL hn) (kk p l e R s m args below meth c cells slots Q D ad A H0 cs C' H locs ls hP hS hL)
theorem gV_iload {k : Nat} {x : Int} (hl : lk pc mt.2.2.2.2.2 = some (nx, tg, .iload k)) (hn : nth lv k = vI x) (kk : gV mt d P nx lv (vI x :: st) M) : gV mt d P pc lv st M := by
  intro p l e R s m args below meth c cells slots Q D ad A H0 cs C H locs ls hP hS hL
  have C' := C
  obtain ⟨c1, c2, c3, c4, c5, c6, c7, c8, c9, c10⟩ := C
  obtain ⟨r1, r2, r3⟩ := row_of c9 hl
  dsimp only [iln] at r1 r2
  subst r2
  exact lv_iload c1 c2 r1 (gL_int hL hn) (kk p l e R s m args below meth c cells slots Q D ad A H0 cs C' H locs ls hP hS hL)
theorem gV_aload_n {k : Fin 4} {r : Nat} (hl : lk pc mt.2.2.2.2.2 = some (nx, tg, .aload_n k)) (hn : nth lv k = vR r) (kk : gV mt d P nx lv (vR r :: st) M) : gV mt d P pc lv st M := by
  intro p l e R s m args below meth c cells slots Q D ad A H0 cs C H locs ls hP hS hL
  have C' := C
  obtain ⟨c1, c2, c3, c4, c5, c6, c7, c8, c9, c10⟩ := C
  obtain ⟨r1, r2, r3⟩ := row_of c9 hl
  dsimp only [iln] at r1 r2
  subst r2
  exact lv_aload_n c1 c2 r1 rfl (gL_ref hL hn) (kk p l e R s m args below meth c cells slots Q D ad A H0 cs C' H locs ls hP hS hL)
theorem gV_aload {k : Nat} {r : Nat} (hl : lk pc mt.2.2.2.2.2 = some (nx, tg, .aload k)) (hn : nth lv k = vR r) (kk : gV mt d P nx lv (vR r :: st) M) : gV mt d P pc lv st M := by
  intro p l e R s m args below meth c cells slots Q D ad A H0 cs C H locs ls hP hS hL
  have C' := C
  obtain ⟨c1, c2, c3, c4, c5, c6, c7, c8, c9, c10⟩ := C
  obtain ⟨r1, r2, r3⟩ := row_of c9 hl
  dsimp only [iln] at r1 r2
  subst r2
  exact lv_aload c1 c2 r1 (gL_ref hL hn) (kk p l e R s m args below meth c cells slots Q D ad A H0 cs C' H locs ls hP hS hL)
theorem gV_iconst {n : Int} (hl : lk pc mt.2.2.2.2.2 = some (nx, tg, .iconst n)) (kk : gV mt d P nx lv (vI n :: st) M) : gV mt d P pc lv st M := by
  intro p l e R s m args below meth c cells slots Q D ad A H0 cs C H locs ls hP hS hL
  have C' := C
  obtain ⟨c1, c2, c3, c4, c5, c6, c7, c8, c9, c10⟩ := C
  obtain ⟨r1, r2, r3⟩ := row_of c9 hl
  dsimp only [iln] at r1 r2
  subst r2
  exact lv_iconst c1 c2 r1 rfl (kk p l e R s m args below meth c cells slots Q D ad A H0 cs C' H locs ls hP hS hL)
theorem gV_bipush {n : Int} (hl : lk pc mt.2.2.2.2.2 = some (nx, tg, .bipush n)) (kk : gV mt d P nx lv (vI n :: st) M) : gV mt d P pc lv st M := by
  intro p l e R s m args below meth c cells slots Q D ad A H0 cs C H locs ls hP hS hL
  have C' := C
  obtain ⟨c1, c2, c3, c4, c5, c6, c7, c8, c9, c10⟩ := C
  obtain ⟨r1, r2, r3⟩ := row_of c9 hl
  dsimp only [iln] at r1 r2
  subst r2
  exact lv_bipush c1 c2 r1 (of_decide_eq_true r3) (kk p l e R s m args below meth c cells slots Q D ad A H0 cs C' H locs ls hP hS hL)
theorem gV_sipush {n : Int} (hl : lk pc mt.2.2.2.2.2 = some (nx, tg, .sipush n)) (kk : gV mt d P nx lv (vI n :: st) M) : gV mt d P pc lv st M := by
  intro p l e R s m args below meth c cells slots Q D ad A H0 cs C H locs ls hP hS hL
  have C' := C
  obtain ⟨c1, c2, c3, c4, c5, c6, c7, c8, c9, c10⟩ := C
  obtain ⟨r1, r2, r3⟩ := row_of c9 hl
  dsimp only [iln] at r1 r2
  subst r2
  exact lv_sipush c1 c2 r1 (of_decide_eq_true r3) (kk p l e R s m args below meth c cells slots Q D ad A H0 cs C' H locs ls hP hS hL)
theorem gV_istore_n {k : Fin 4} {x : Int} (hl : lk pc mt.2.2.2.2.2 = some (nx, tg, .istore_n k)) (hk : (k : Nat) < lv.length) (kk : gV mt d P nx (lv.set k (vI x)) rest M) : gV mt d P pc lv (vI x :: rest) M := by
  intro p l e R s m args below meth c cells slots Q D ad A H0 cs C H locs ls hP hS hL
  have C' := C
  obtain ⟨c1, c2, c3, c4, c5, c6, c7, c8, c9, c10⟩ := C
  obtain ⟨r1, r2, r3⟩ := row_of c9 hl
  dsimp only [iln] at r1 r2
  subst r2
  exact lv_istore_n c1 c2 r1 rfl hL.2 (Nat.lt_of_lt_of_le hk hL.1) rfl (fun ls' h' => kk p l e R s m args below meth c cells slots Q D ad A H0 cs C' H locs ls' hP hS (gL_set hL hk h'))
theorem gV_istore {k : Nat} {x : Int} (hl : lk pc mt.2.2.2.2.2 = some (nx, tg, .istore k)) (hk : (k : Nat) < lv.length) (kk : gV mt d P nx (lv.set k (vI x)) rest M) : gV mt d P pc lv (vI x :: rest) M := by
  intro p l e R s m args below meth c cells slots Q D ad A H0 cs C H locs ls hP hS hL
  have C' := C
  obtain ⟨c1, c2, c3, c4, c5, c6, c7, c8, c9, c10⟩ := C
  obtain ⟨r1, r2, r3⟩ := row_of c9 hl
  dsimp only [iln] at r1 r2
  subst r2
  exact lv_istore c1 c2 r1 hL.2 (Nat.lt_of_lt_of_le hk hL.1) rfl (fun ls' h' => kk p l e R s m args below meth c cells slots Q D ad A H0 cs C' H locs ls' hP hS (gL_set hL hk h'))
theorem gV_iinc {k : Nat} {x n : Int} (hl : lk pc mt.2.2.2.2.2 = some (nx, tg, .iinc k n)) (hn : nth lv k = vI x) (hk : (k : Nat) < lv.length) (kk : gV mt d P nx (lv.set k (vI (x + n))) st M) : gV mt d P pc lv st M := by
  intro p l e R s m args below meth c cells slots Q D ad A H0 cs C H locs ls hP hS hL
  have C' := C
  obtain ⟨c1, c2, c3, c4, c5, c6, c7, c8, c9, c10⟩ := C
  obtain ⟨r1, r2, r3⟩ := row_of c9 hl
  dsimp only [iln] at r1 r2
  subst r2
  obtain ⟨j, hj⟩ := List.getElem?_of_mem (lal_mem (ad := ad).mpr (Or.inl ⟨x, nth_eq _ _ _ hn, rfl⟩))
  exact lv_iinc c1 c2 r1 hL.2 hj (Int32.ofInt_add x n).symm (Nat.lt_of_lt_of_le hk hL.1) rfl (fun ls' h' => kk p l e R s m args below meth c cells slots Q D ad A H0 cs C' H locs ls' hP hS (gL_set hL hk h'))
theorem gV_goto {o : Int} (hl : lk pc mt.2.2.2.2.2 = some (nx, tg, .goto o)) (kk : gV mt d P tg lv st M) : gV mt d P pc lv st M := by
  intro p l e R s m args below meth c cells slots Q D ad A H0 cs C H locs ls hP hS hL
  have C' := C
  obtain ⟨c1, c2, c3, c4, c5, c6, c7, c8, c9, c10⟩ := C
  obtain ⟨r1, r2, r3⟩ := row_of c9 hl
  exact lv_goto c1 c2 r1 (of_decide_eq_true r3) (kk p l e R s m args below meth c cells slots Q D ad A H0 cs C' H locs ls hP hS hL)
theorem cv_cat1 {ad : Nat → Nat} {v : PV} (h : ∀ x, v ≠ vL x) : (cv ad v).category = 1 := by
  rcases v with _ | x | r | x
  · rfl
  · rfl
  · rfl
  · exact absurd rfl (h x)
theorem gV_dup {v : PV} (hl : lk pc mt.2.2.2.2.2 = some (nx, tg, .dup)) (hv : ∀ x, v ≠ vL x) (kk : gV mt d P nx lv (v :: v :: rest) M) : gV mt d P pc lv (v :: rest) M := by
  intro p l e R s m args below meth c cells slots Q D ad A H0 cs C H locs ls hP hS hL
  have C' := C
  obtain ⟨c1, c2, c3, c4, c5, c6, c7, c8, c9, c10⟩ := C
  obtain ⟨r1, r2, r3⟩ := row_of c9 hl
  dsimp only [iln] at r1 r2
  subst r2
  exact lv_dup c1 c2 r1 (cv_cat1 hv) (kk p l e R s m args below meth c cells slots Q D ad A H0 cs C' H locs ls hP hS hL)
theorem gV_dup2 {v w : PV} (hl : lk pc mt.2.2.2.2.2 = some (nx, tg, .dup2)) (hv : ∀ x, v ≠ vL x) (hw : ∀ x, w ≠ vL x) (kk : gV mt d P nx lv (v :: w :: v :: w :: rest) M) : gV mt d P pc lv (v :: w :: rest) M := by
  intro p l e R s m args below meth c cells slots Q D ad A H0 cs C H locs ls hP hS hL
  have C' := C
  obtain ⟨c1, c2, c3, c4, c5, c6, c7, c8, c9, c10⟩ := C
  obtain ⟨r1, r2, r3⟩ := row_of c9 hl
  dsimp only [iln] at r1 r2
  subst r2
  exact lv_dup2_11 c1 c2 r1 (cv_cat1 hv) (cv_cat1 hw) (kk p l e R s m args below meth c cells slots Q D ad A H0 cs C' H locs ls hP hS hL)
theorem gV_pop {v : PV} (hl : lk pc mt.2.2.2.2.2 = some (nx, tg, .pop)) (hv : ∀ x, v ≠ vL x) (kk : gV mt d P nx lv rest M) : gV mt d P pc lv (v :: rest) M := by
  intro p l e R s m args below meth c cells slots Q D ad A H0 cs C H locs ls hP hS hL
  have C' := C
  obtain ⟨c1, c2, c3, c4, c5, c6, c7, c8, c9, c10⟩ := C
  obtain ⟨r1, r2, r3⟩ := row_of c9 hl
  dsimp only [iln] at r1 r2
  subst r2
  exact lv_pop c1 c2 r1 (cv_cat1 hv) (kk p l e R s m args below meth c cells slots Q D ad A H0 cs C' H locs ls hP hS hL)
theorem gV_iadd {x y : Int} (hl : lk pc mt.2.2.2.2.2 = some (nx, tg, .iadd)) (kk : gV mt d P nx lv (vI (x + y) :: rest) M) : gV mt d P pc lv (vI y :: vI x :: rest) M := by
  intro p l e R s m args below meth c cells slots Q D ad A H0 cs C H locs ls hP hS hL
  have C' := C
  obtain ⟨c1, c2, c3, c4, c5, c6, c7, c8, c9, c10⟩ := C
  obtain ⟨r1, r2, r3⟩ := row_of c9 hl
  dsimp only [iln] at r1 r2
  subst r2
  have k1 := kk p l e R s m args below meth c cells slots Q D ad A H0 cs C' H locs ls hP hS hL
  have e1 : cv ad (vI (x + y)) = .int (Int32.ofInt x + Int32.ofInt y) := by simp [cv, Int32.ofInt_add]
  simp only [List.map_cons, e1] at k1
  exact lv_iadd c1 c2 r1 k1
theorem gV_isub {x y : Int} (hl : lk pc mt.2.2.2.2.2 = some (nx, tg, .isub)) (kk : gV mt d P nx lv (vI (x - y) :: rest) M) : gV mt d P pc lv (vI y :: vI x :: rest) M := by
  intro p l e R s m args below meth c cells slots Q D ad A H0 cs C H locs ls hP hS hL
  have C' := C
  obtain ⟨c1, c2, c3, c4, c5, c6, c7, c8, c9, c10⟩ := C
  obtain ⟨r1, r2, r3⟩ := row_of c9 hl
  dsimp only [iln] at r1 r2
  subst r2
  have k1 := kk p l e R s m args below meth c cells slots Q D ad A H0 cs C' H locs ls hP hS hL
  have e1 : cv ad (vI (x - y)) = .int (Int32.ofInt x - Int32.ofInt y) := by simp [cv, Int32.ofInt_sub]
  simp only [List.map_cons, e1] at k1
  exact lv_isub c1 c2 r1 k1
theorem gV_imul {x y : Int} (hl : lk pc mt.2.2.2.2.2 = some (nx, tg, .imul)) (kk : gV mt d P nx lv (vI (x * y) :: rest) M) : gV mt d P pc lv (vI y :: vI x :: rest) M := by
  intro p l e R s m args below meth c cells slots Q D ad A H0 cs C H locs ls hP hS hL
  have C' := C
  obtain ⟨c1, c2, c3, c4, c5, c6, c7, c8, c9, c10⟩ := C
  obtain ⟨r1, r2, r3⟩ := row_of c9 hl
  dsimp only [iln] at r1 r2
  subst r2
  have k1 := kk p l e R s m args below meth c cells slots Q D ad A H0 cs C' H locs ls hP hS hL
  have e1 : cv ad (vI (x * y)) = .int (Int32.ofInt x * Int32.ofInt y) := by simp [cv, Int32.ofInt_mul]
  simp only [List.map_cons, e1] at k1
  exact lv_imul c1 c2 r1 k1
theorem i32_nI {x : Int} (h : 0 ≤ x) : Int32.ofInt x = nI x.toNat := by
  unfold nI
  rw [← Int32.ofInt_eq_ofNat, Int.toNat_of_nonneg h]
theorem gV_irem {x y : Int} (hl : lk pc mt.2.2.2.2.2 = some (nx, tg, .irem)) (hc : 0 ≤ x ∧ x ≤ 2147483647 ∧ 0 < y ∧ y ≤ 2147483647) (kk : gV mt d P nx lv (vI (x % y) :: rest) M) : gV mt d P pc lv (vI y :: vI x :: rest) M := by
  intro p l e R s m args below meth c cells slots Q D ad A H0 cs C H locs ls hP hS hL
  have C' := C
  obtain ⟨c1, c2, c3, c4, c5, c6, c7, c8, c9, c10⟩ := C
  obtain ⟨r1, r2, r3⟩ := row_of c9 hl
  dsimp only [iln] at r1 r2
  subst r2
  obtain ⟨h1, h2, h3, h4⟩ := hc
  have k1 := kk p l e R s m args below meth c cells slots Q D ad A H0 cs C' H locs ls hP hS hL
  have hne : ¬ Int32.ofInt y = 0 := fun q => by
    have := (i32_eq (x := y) (y := 0) ⟨by omega, by omega⟩ rng_0).mp q
    omega
  have e1 : cv ad (vI (x % y)) = .int (Int32.ofInt x - Int32.ofInt x / Int32.ofInt y * Int32.ofInt y) := by
    have hm : 0 ≤ x % y := Int.emod_nonneg x (by omega)
    simp only [cv]
    rw [i32_nI h1, i32_nI (x := y) (by omega), pk_rem (by omega) (by omega) (by omega), i32_nI hm]
    congr 2
    have : ((x.toNat % y.toNat : Nat) : Int) = x % y := by rw [Int.natCast_emod, Int.toNat_of_nonneg h1, Int.toNat_of_nonneg (by omega)]
    omega
  simp only [List.map_cons, e1] at k1
  exact lv_irem c1 c2 r1 hne k1
theorem gV_i2l {x : Int} (hl : lk pc mt.2.2.2.2.2 = some (nx, tg, .i2l)) (hx : rng x) (kk : gV mt d P nx lv (vL x :: rest) M) : gV mt d P pc lv (vI x :: rest) M := by
  intro p l e R s m args below meth c cells slots Q D ad A H0 cs C H locs ls hP hS hL
  have C' := C
  obtain ⟨c1, c2, c3, c4, c5, c6, c7, c8, c9, c10⟩ := C
  obtain ⟨r1, r2, r3⟩ := row_of c9 hl
  dsimp only [iln] at r1 r2
  subst r2
  refine lv_i2l c1 c2 r1 (v := Int64.ofInt x) ?_ (kk p l e R s m args below meth c cells slots Q D ad A H0 cs C' H locs ls hP hS hL)
  apply Int64.toInt_inj.mp
  rw [Int32.toInt_toInt64, i32_toInt hx, i64_toInt (by have := hx.1; omega) (by have := hx.2; omega)]
theorem gV_lmul {x y : Int} (hl : lk pc mt.2.2.2.2.2 = some (nx, tg, .lmul)) (kk : gV mt d P nx lv (vL (x * y) :: rest) M) : gV mt d P pc lv (vL y :: vL x :: rest) M := by
  intro p l e R s m args below meth c cells slots Q D ad A H0 cs C H locs ls hP hS hL
  have C' := C
  obtain ⟨c1, c2, c3, c4, c5, c6, c7, c8, c9, c10⟩ := C
  obtain ⟨r1, r2, r3⟩ := row_of c9 hl
  dsimp only [iln] at r1 r2
  subst r2
  have k1 := kk p l e R s m args below meth c cells slots Q D ad A H0 cs C' H locs ls hP hS hL
  have e1 : cv ad (vL (x * y)) = .long (Int64.ofInt x * Int64.ofInt y) := by simp [cv, Int64.ofInt_mul]
  simp only [List.map_cons, e1] at k1
  exact lv_lmul c1 c2 r1 k1
theorem gV_ladd {x y : Int} (hl : lk pc mt.2.2.2.2.2 = some (nx, tg, .ladd)) (kk : gV mt d P nx lv (vL (x + y) :: rest) M) : gV mt d P pc lv (vL y :: vL x :: rest) M := by
  intro p l e R s m args below meth c cells slots Q D ad A H0 cs C H locs ls hP hS hL
  have C' := C
  obtain ⟨c1, c2, c3, c4, c5, c6, c7, c8, c9, c10⟩ := C
  obtain ⟨r1, r2, r3⟩ := row_of c9 hl
  dsimp only [iln] at r1 r2
  subst r2
  have k1 := kk p l e R s m args below meth c cells slots Q D ad A H0 cs C' H locs ls hP hS hL
  have e1 : cv ad (vL (x + y)) = .long (Int64.ofInt x + Int64.ofInt y) := by simp [cv, Int64.ofInt_add]
  simp only [List.map_cons, e1] at k1
  exact lv_ladd c1 c2 r1 k1
end GS
end
section
/-! Fields and arrays. -/
theorem nar_b {v : Int} (h : v = 0 ∨ v = 1) : narrow .boolean (.int (Int32.ofInt v)) = .int (Int32.ofInt v) := by
  rcases h with rfl | rfl <;> decide +kernel
theorem narb_b {v : Int} (h : v = 0 ∨ v = 1) : vp_nar .boolean (Int32.ofInt v) = Int32.ofInt v := by
  rcases h with rfl | rfl <;> decide +kernel
theorem fit_b {v : Int} (h : v = 0 ∨ v = 1) : fits .boolean (.int (Int32.ofInt v)) = true := by
  rcases h with rfl | rfl <;> decide +kernel
theorem pfd_I : parseFieldDescriptor "I" = some .int := by decide +kernel
theorem pfd_Z : parseFieldDescriptor "Z" = some .boolean := by decide +kernel
section GA
variable {mt : Mt} {d : Nat} {P : PV → Mem → Prop} {pc nx tg : Nat} {lv st rest : List PV} {M : Mem}
theorem gV_get {ix ci k tc r : Nat} {fs : List (Option Nat)} {o : Option Nat} {v : PV} (hl : lk pc mt.2.2.2.2.2 = some (nx, tg, .getfield ix)) (hf : fk ix mt.2.2.2.2.1 = some (ci, k, tc)) (hs : shp r = some (.inl (ci, fs))) (ho : fs[k]? = some o)
    (hv : ∀ ad, cv ad v = fvl ad M r k o) (kk : gV mt d P nx lv (v :: rest) M) : gV mt d P pc lv (vR r :: rest) M := by
  intro p l e R s m args below meth c cells slots Q D ad A H0 cs C H locs ls hP hS hL
  have C' := C
  obtain ⟨c1, c2, c3, c4, c5, c6, c7, c8, c9, c10⟩ := C
  obtain ⟨r1, r2, r3⟩ := row_of c9 hl
  dsimp only [iln] at r1 r2
  subst r2
  obtain ⟨CC, TT, NN, f1, f2, f3, -⟩ := c9.2.2.1 _ (fk_mem hf)
  refine va_get c1 c2 c5 (clOk _ _ _ _ f1).1 c4 c6 hP r (wld_get hs) f1 k f2 (c5 _ f3) (fun _ h => h) (v := cv ad v) ?_ r1 (kk p l e R s m args below meth c cells slots Q D ad A H0 cs C' H locs ls hP hS hL)
  rw [List.getElem?_mapIdx, ho, hv ad]
  rfl
theorem gV_put {ix ci k tc r : Nat} {fs : List (Option Nat)} {v : Int} (hl : lk pc mt.2.2.2.2.2 = some (nx, tg, .putfield ix)) (hf : fk ix mt.2.2.2.2.1 = some (ci, k, tc)) (hs : shp r = some (.inl (ci, fs))) (ho : fs[k]? = some none)
    (hv : tc = 0 ∨ (tc = 1 ∧ (v = 0 ∨ v = 1))) (kk : gV mt d P nx lv rest (mw M r k v)) : gV mt d P pc lv (vI v :: vR r :: rest) M := by
  intro p l e R s m args below meth c cells slots Q D ad A H0 cs C H locs ls hP hS hL
  have C' := C
  obtain ⟨c1, c2, c3, c4, c5, c6, c7, c8, c9, c10⟩ := C
  obtain ⟨r1, r2, r3⟩ := row_of c9 hl
  dsimp only [iln] at r1 r2
  subst r2
  obtain ⟨CC, TT, NN, f1, f2, f3, f4, f5⟩ := c9.2.2.1 _ (fk_mem hf)
  obtain ⟨g1, ty0, g2, g3⟩ := clOk _ _ _ _ f1
  have key : ∃ ty, (TT k).2.2.2 = false ∧ parseFieldDescriptor (TT k).2.2.1 = some ty ∧ narrow ty (.int (Int32.ofInt v)) = .int (Int32.ofInt v) ∧ fits ty (.int (Int32.ofInt v)) = true := by
    rcases hv with h | ⟨h, h9⟩
    · obtain ⟨q1, q2⟩ := f4 h
      exact ⟨.int, q2, by rw [q1]; exact pfd_I, rfl, rfl⟩
    · obtain ⟨q1, q2⟩ := f5 h
      exact ⟨.boolean, q2, by rw [q1]; exact pfd_Z, nar_b h9, fit_b h9⟩
  obtain ⟨ty, t1, t2, t3, t4⟩ := key
  have hlen : k < fs.length := (List.getElem?_eq_some_iff.mp ho).1
  refine va_put c1 c2 c5 g1 ty0 g2 g3 c4 c6 hP (c7 M) hS r (wld_get hs) f1 k f2 (c5 _ f3) (fun _ h => h) t1 t2 t3 t4 (by simpa using hlen) r1 (fun H1 locs1 h1 h2 h3 => ?_)
  have h1 : va_P D vwCl (wld cs ad (mw M r k v)) H1 := by
    rw [← wld_set hs rfl]
    simp only [cel]
    rw [← obj_mw ho]
    exact h1
  exact kk p l e R s m args below meth c cells slots Q D ad A H0 cs C' H1 locs1 ls h1 h3 hL
theorem gV_iald {r n : Nat} {i : Int} (hl : lk pc mt.2.2.2.2.2 = some (nx, tg, .iaload)) (hs : shp r = some (.inr (0, n))) (hn : n < 2147483648) (hi : 0 ≤ i ∧ i < n) (kk : gV mt d P nx lv (vI (M r i) :: rest) M) : gV mt d P pc lv (vI i :: vR r :: rest) M := by
  intro p l e R s m args below meth c cells slots Q D ad A H0 cs C H locs ls hP hS hL
  have C' := C
  obtain ⟨c1, c2, c3, c4, c5, c6, c7, c8, c9, c10⟩ := C
  obtain ⟨r1, r2, r3⟩ := row_of c9 hl
  dsimp only [iln] at r1 r2
  subst r2
  have k1 := kk p l e R s m args below meth c cells slots Q D ad A H0 cs C' H locs ls hP hS hL
  have e1 : cv ad (vI (M r i)) = .int ((fun j : Nat => Int32.ofInt (M r j)) (Int32.ofInt i).toNatClampNeg) := by
    simp only [cv]
    rw [i32_clamp hi.1 (by omega), Int.toNat_of_nonneg hi.1]
  simp only [List.map_cons, e1] at k1
  exact va_iald c1 c2 c6 hP r 0 (wld_get hs) rfl (i32_in hi.1 hi.2 hn) r1 k1
theorem gV_zald {r n : Nat} {i : Int} (hl : lk pc mt.2.2.2.2.2 = some (nx, tg, .baload)) (hs : shp r = some (.inr (1, n))) (hn : n < 2147483648) (hi : 0 ≤ i ∧ i < n) (kk : gV mt d P nx lv (vI (M r i) :: rest) M) : gV mt d P pc lv (vI i :: vR r :: rest) M := by
  intro p l e R s m args below meth c cells slots Q D ad A H0 cs C H locs ls hP hS hL
  have C' := C
  obtain ⟨c1, c2, c3, c4, c5, c6, c7, c8, c9, c10⟩ := C
  obtain ⟨r1, r2, r3⟩ := row_of c9 hl
  dsimp only [iln] at r1 r2
  subst r2
  have k1 := kk p l e R s m args below meth c cells slots Q D ad A H0 cs C' H locs ls hP hS hL
  have e1 : cv ad (vI (M r i)) = .int ((fun j : Nat => Int32.ofInt (M r j)) (Int32.ofInt i).toNatClampNeg) := by
    simp only [cv]
    rw [i32_clamp hi.1 (by omega), Int.toNat_of_nonneg hi.1]
  simp only [List.map_cons, e1] at k1
  exact va_zald c1 c2 c6 hP r 1 (wld_get hs) rfl (i32_in hi.1 hi.2 hn) r1 k1
theorem gV_aald {r n b : Nat} {i : Int} (hl : lk pc mt.2.2.2.2.2 = some (nx, tg, .aaload)) (hs : shp r = some (.inr (b + 2, n))) (hn : n < 2147483648) (hi : 0 ≤ i ∧ i < n) (kk : gV mt d P nx lv (vR (b + 2 + i.toNat) :: rest) M) : gV mt d P pc lv (vI i :: vR r :: rest) M := by
  intro p l e R s m args below meth c cells slots Q D ad A H0 cs C H locs ls hP hS hL
  have C' := C
  obtain ⟨c1, c2, c3, c4, c5, c6, c7, c8, c9, c10⟩ := C
  obtain ⟨r1, r2, r3⟩ := row_of c9 hl
  dsimp only [iln] at r1 r2
  subst r2
  have k1 := kk p l e R s m args below meth c cells slots Q D ad A H0 cs C' H locs ls hP hS hL
  have hin := i32_in hi.1 hi.2 hn
  have hlt : (Int32.ofInt i).toNatClampNeg < n := Nat.not_le.mp fun q => hin (Or.inr q)
  have e1 : cv ad (vR (b + 2 + i.toNat)) = va_rf ((fun j : Nat => some (ad (b + 2 + j))) (Int32.ofInt i).toNatClampNeg) := by
    simp only [cv]
    rw [i32_clamp hi.1 (by omega)]
    rfl
  simp only [List.map_cons, e1] at k1
  exact W.aald (ty := .array .int) c1 c2 (hP r _ (wld_get hs)) ((c6.2 2 _ rfl).1 n (fun j => va_rf (some (ad (b + 2 + j))))) rfl (fun q => by cases q) (by show ¬ (_ ∨ (arrV _ _ _).slots.size ≤ _); rw [arrV_size]; exact hin) (by show (arrV _ _ _).slots[_]? = _; rw [arrV_read _ _ hlt]) rfl rfl r1 k1
theorem gV_iast {r n : Nat} {i v : Int} (hl : lk pc mt.2.2.2.2.2 = some (nx, tg, .iastore)) (hs : shp r = some (.inr (0, n))) (hn : n < 2147483648) (hi : 0 ≤ i ∧ i < n) (kk : gV mt d P nx lv rest (mw M r i v)) : gV mt d P pc lv (vI v :: vI i :: vR r :: rest) M := by
  intro p l e R s m args below meth c cells slots Q D ad A H0 cs C H locs ls hP hS hL
  have C' := C
  obtain ⟨c1, c2, c3, c4, c5, c6, c7, c8, c9, c10⟩ := C
  obtain ⟨r1, r2, r3⟩ := row_of c9 hl
  dsimp only [iln] at r1 r2
  subst r2
  refine va_iast c1 c2 c6 hP (c7 M) hS r 0 (wld_get hs) rfl (i32_in hi.1 hi.2 hn) r1 (fun H1 locs1 h1 h2 h3 => ?_)
  rw [upd_mw hi.1 (by omega)] at h1
  have h1 : va_P D vwCl (wld cs ad (mw M r i v)) H1 := by
    rw [← wld_set hs rfl]
    exact h1
  exact kk p l e R s m args below meth c cells slots Q D ad A H0 cs C' H1 locs1 ls h1 h3 hL
theorem gV_zast {r n : Nat} {i v : Int} (hl : lk pc mt.2.2.2.2.2 = some (nx, tg, .bastore)) (hs : shp r = some (.inr (1, n))) (hn : n < 2147483648) (hi : (0 ≤ i ∧ i < n) ∧ (v = 0 ∨ v = 1)) (kk : gV mt d P nx lv rest (mw M r i v)) : gV mt d P pc lv (vI v :: vI i :: vR r :: rest) M := by
  intro p l e R s m args below meth c cells slots Q D ad A H0 cs C H locs ls hP hS hL
  have C' := C
  obtain ⟨c1, c2, c3, c4, c5, c6, c7, c8, c9, c10⟩ := C
  obtain ⟨r1, r2, r3⟩ := row_of c9 hl
  dsimp only [iln] at r1 r2
  subst r2
  refine va_zast c1 c2 c6 hP (c7 M) hS r 1 (wld_get hs) rfl (i32_in hi.1.1 hi.1.2 hn) r1 (fun H1 locs1 h1 h2 h3 => ?_)
  rw [narb_b hi.2, upd_mw hi.1.1 (by omega)] at h1
  have h1 : va_P D vwCl (wld cs ad (mw M r i v)) H1 := by
    rw [← wld_set hs rfl]
    exact h1
  exact kk p l e R s m args below meth c cells slots Q D ad A H0 cs C' H1 locs1 ls h1 h3 hL
end GA
end
section
/-! ps is what the machine does; branches; answers; calls; from a frame to a contract. -/
theorem shp_small {r k n : Nat} (h : shp r = some (.inr (k, n))) : n < 2147483648 := by
  unfold shp at h
  rw [shf_eq] at h
  have key : ∀ sh ∈ shL, ∀ k n, sh = .inr (k, n) → n < 2147483648 := by
    intro sh hsh
    have h1 : shL.all (fun sh => match sh with | .inr (_, n) => decide (n < 2147483648) | _ => true) = true := by decide +kernel
    have h2 := List.all_eq_true.mp h1 sh hsh
    rintro k n rfl
    exact of_decide_eq_true h2
  exact key _ (List.mem_of_getElem? h) k n rfl
section GT
variable {mt : Mt} {d : Nat} {P : PV → Mem → Prop} {pc nx tg : Nat} {lv st rest : List PV} {M : Mem}
set_option maxHeartbeats 4000000 in
theorem gV_st {cf : Cf} {φ : Prop} (h : ps mt pc lv st M = some (cf, φ)) (hφ : φ) (kk : gV mt d P cf.1 cf.2.1 cf.2.2.1 cf.2.2.2) : gV mt d P pc lv st M := by
  unfold ps at h
  cases hl : lk pc mt.2.2.2.2.2 with
  | none => rw [hl] at h; cases h
  | some x =>
    obtain ⟨nx, tg, ins⟩ := x
    rw [hl] at h
    dsimp only at h
    cases ins
    case iload_n k =>
      dsimp only at h
      split at h
      next x hn => cases h; exact gV_iload_n hl hn kk
      next => cases h
    case iload k =>
      dsimp only at h
      split at h
      next x hn => cases h; exact gV_iload hl hn kk
      next => cases h
    case aload_n k =>
      dsimp only at h
      split at h
      next x hn => cases h; exact gV_aload_n hl hn kk
      next => cases h
    case aload k =>
      dsimp only at h
      split at h
      next x hn => cases h; exact gV_aload hl hn kk
      next => cases h
    case iconst n => cases h; exact gV_iconst hl kk
    case bipush n => cases h; exact gV_bipush hl kk
    case sipush n => cases h; exact gV_sipush hl kk
    case istore_n k =>
      dsimp only at h
      split at h
      next x rest =>
        obtain ⟨h1, h2⟩ := stk_eq _ _ _ _ h
        cases h2
        exact gV_istore_n hl h1 kk
      next => cases h
    case istore k =>
      dsimp only at h
      split at h
      next x rest =>
        obtain ⟨h1, h2⟩ := stk_eq _ _ _ _ h
        cases h2
        exact gV_istore hl h1 kk
      next => cases h
    case iinc k n =>
      dsimp only at h
      split at h
      next x hn =>
        obtain ⟨h1, h2⟩ := stk_eq _ _ _ _ h
        cases h2
        exact gV_iinc hl hn h1 kk
      next => cases h
    case goto o => cases h; exact gV_goto hl kk
    case dup =>
      dsimp only at h
      split at h
      next x rest => cases h; exact gV_dup hl (fun y q => by cases q) kk
      next r rest => cases h; exact gV_dup hl (fun y q => by cases q) kk
      next => cases h
    case dup2 =>
      dsimp only at h
      split at h
      next x y rest => cases h; exact gV_dup2 hl (fun y q => by cases q) (fun y q => by cases q) kk
      next x r rest => cases h; exact gV_dup2 hl (fun y q => by cases q) (fun y q => by cases q) kk
      next => cases h
    case pop =>
      dsimp only at h
      split at h
      next x rest => cases h; exact gV_pop hl (fun y q => by cases q) kk
      next => cases h
    case iadd =>
      dsimp only at h
      split at h
      next x y rest => cases h; exact gV_iadd hl kk
      next => cases h
    case isub =>
      dsimp only at h
      split at h
      next x y rest => cases h; exact gV_isub hl kk
      next => cases h
    case imul =>
      dsimp only at h
      split at h
      next x y rest => cases h; exact gV_imul hl kk
      next => cases h
    case irem =>
      dsimp only at h
      split at h
      next x y rest => cases h; exact gV_irem hl hφ kk
      next => cases h
    case i2l =>
      dsimp only at h
      split at h
      next x rest => cases h; exact gV_i2l hl hφ kk
      next => cases h
    case lmul =>
      dsimp only at h
      split at h
      next x y rest => cases h; exact gV_lmul hl kk
      next => cases h
    case ladd =>
      dsimp only at h
      split at h
      next x y rest => cases h; exact gV_ladd hl kk
      next => cases h
    case getfield ix =>
      dsimp only at h
      split at h
      next r rest =>
        unfold psGet at h
        split at h
        next ci k tc hf =>
          split at h
          next ci' fs hs =>
            cases hb : Nat.beq ci ci' with
            | false => rw [hb] at h; cases h
            | true =>
              rw [hb] at h
              have he : ci = ci' := Nat.eq_of_beq_eq_true hb
              subst he
              dsimp only [cond_true] at h
              split at h
              next ho => cases h; exact gV_get hl hf hs (by rw [← nO_eq]; exact ho) (fun ad => rfl) kk
              next q ho => cases h; exact gV_get hl hf hs (by rw [← nO_eq]; exact ho) (fun ad => rfl) kk
              next => cases h
          next => cases h
        next => cases h
      next => cases h
    case putfield ix =>
      dsimp only at h
      split at h
      next v r rest =>
        unfold psPut at h
        split at h
        next ci k tc hf =>
          split at h
          next ci' fs hs =>
            cases hb : Nat.beq ci ci' with
            | false => rw [hb] at h; cases h
            | true =>
              rw [hb] at h
              have he : ci = ci' := Nat.eq_of_beq_eq_true hb
              subst he
              dsimp only [cond_true] at h
              split at h
              next ho =>
                split at h
                next => cases h; exact gV_put hl hf hs (by rw [← nO_eq]; exact ho) (Or.inl rfl) kk
                next => cases h; exact gV_put hl hf hs (by rw [← nO_eq]; exact ho) (Or.inr ⟨rfl, hφ⟩) kk
                next => cases h
              next => cases h
          next => cases h
        next => cases h
      next => cases h
    case iaload =>
      dsimp only at h
      split at h
      next i r rest =>
        split at h
        next n hs => cases h; exact gV_iald hl hs (shp_small hs) hφ kk
        next => cases h
      next => cases h
    case baload =>
      dsimp only at h
      split at h
      next i r rest =>
        split at h
        next n hs => cases h; exact gV_zald hl hs (shp_small hs) hφ kk
        next => cases h
      next => cases h
    case aaload =>
      dsimp only at h
      split at h
      next i r rest =>
        split at h
        next b n hs => cases h; exact gV_aald hl hs (shp_small hs) hφ kk
        next => cases h
      next => cases h
    case iastore =>
      dsimp only at h
      split at h
      next v i r rest =>
        split at h
        next n hs => cases h; exact gV_iast hl hs (shp_small hs) hφ kk
        next => cases h
      next => cases h
    case bastore =>
      dsimp only at h
      split at h
      next v i r rest =>
        split at h
        next n hs => cases h; exact gV_zast hl hs (shp_small hs) hφ kk
        next => cases h
      next => cases h
    all_goals cases h
end GT
end
section
/-! Branches, answers, calls, and from a frame to a contract. -/
section GB
variable {mt : Mt} {d : Nat} {P : PV → Mem → Prop} {pc nx tg : Nat} {lv st rest : List PV} {M : Mem}
theorem icmp_ok {op : Jvm.ClassFile.Cond} {o : Int} {x y : Int} (hl : lk pc mt.2.2.2.2.2 = some (nx, tg, .if_icmp op o)) (hx : rng x) (hy : rng y) (kt : pbc op x y → gV mt d P tg lv rest M) (kf : ¬ pbc op x y → gV mt d P nx lv rest M) : gV mt d P pc lv (vI y :: vI x :: rest) M := by
  intro p l e R s m args below meth c cells slots Q D ad A H0 cs C H locs ls hP hS hL
  have C' := C
  obtain ⟨c1, c2, c3, c4, c5, c6, c7, c8, c9, c10⟩ := C
  obtain ⟨r1, r2, r3⟩ := row_of c9 hl
  dsimp only [iln] at r1 r2
  subst r2
  have r4 := of_decide_eq_true r3
  have kt' := fun q => kt q p l e R s m args below meth c cells slots Q D ad A H0 cs C' H locs ls hP hS hL
  have kf' := fun q => kf q p l e R s m args below meth c cells slots Q D ad A H0 cs C' H locs ls hP hS hL
  cases op
  case eq => exact lv_icmp_eq c1 c2 r1 r4 (fun q => kt' ((i32_eq hx hy).mp q)) (fun q => kf' (fun z => q ((i32_eq hx hy).mpr z)))
  case ne => exact lv_icmp_ne c1 c2 r1 r4 (fun q => kt' (fun z => q ((i32_eq hx hy).mpr z))) (fun q => kf' (fun z => z ((i32_eq hx hy).mp q)))
  case lt => exact lv_icmp_lt c1 c2 r1 r4 (fun q => kt' ((i32_lt hx hy).mp q)) (fun q => kf' (fun z => q ((i32_lt hx hy).mpr z)))
  case ge => exact lv_icmp_ge c1 c2 r1 r4 (fun q => kt' ((i32_le hy hx).mp q)) (fun q => kf' (fun z => q ((i32_le hy hx).mpr z)))
  case gt => exact lv_icmp_gt c1 c2 r1 r4 (fun q => kt' ((i32_lt hy hx).mp q)) (fun q => kf' (fun z => q ((i32_lt hy hx).mpr z)))
  case le => exact lv_icmp_le c1 c2 r1 r4 (fun q => kt' ((i32_le hx hy).mp q)) (fun q => kf' (fun z => q ((i32_le hx hy).mpr z)))
theorem ifc_ok {op : Jvm.ClassFile.Cond} {o : Int} {x : Int} (hl : lk pc mt.2.2.2.2.2 = some (nx, tg, .ifCond op o)) (hx : rng x) (kt : pbc op x 0 → gV mt d P tg lv rest M) (kf : ¬ pbc op x 0 → gV mt d P nx lv rest M) : gV mt d P pc lv (vI x :: rest) M := by
  intro p l e R s m args below meth c cells slots Q D ad A H0 cs C H locs ls hP hS hL
  have C' := C
  obtain ⟨c1, c2, c3, c4, c5, c6, c7, c8, c9, c10⟩ := C
  obtain ⟨r1, r2, r3⟩ := row_of c9 hl
  dsimp only [iln] at r1 r2
  subst r2
  have r4 := of_decide_eq_true r3
  have hy := rng_0
  have kt' := fun q => kt q p l e R s m args below meth c cells slots Q D ad A H0 cs C' H locs ls hP hS hL
  have kf' := fun q => kf q p l e R s m args below meth c cells slots Q D ad A H0 cs C' H locs ls hP hS hL
  cases op
  case eq => exact lv_if_eq c1 c2 r1 r4 (fun q => kt' ((i32_eq hx hy).mp q)) (fun q => kf' (fun z => q ((i32_eq hx hy).mpr z)))
  case ne => exact lv_if_ne c1 c2 r1 r4 (fun q => kt' (fun z => q ((i32_eq hx hy).mpr z))) (fun q => kf' (fun z => z ((i32_eq hx hy).mp q)))
  case lt => exact lv_if_lt c1 c2 r1 r4 (fun q => kt' ((i32_lt hx hy).mp q)) (fun q => kf' (fun z => q ((i32_lt hx hy).mpr z)))
  case ge => exact lv_if_ge c1 c2 r1 r4 (fun q => kt' ((i32_le hy hx).mp q)) (fun q => kf' (fun z => q ((i32_le hy hx).mpr z)))
  case gt => exact lv_if_gt c1 c2 r1 r4 (fun q => kt' ((i32_lt hy hx).mp q)) (fun q => kf' (fun z => q ((i32_lt hy hx).mpr z)))
  case le => exact lv_if_le c1 c2 r1 r4 (fun q => kt' ((i32_le hx hy).mp q)) (fun q => kf' (fun z => q ((i32_le hx hy).mpr z)))
theorem gV_if {z : Nat × Nat × List PV} {φ cnd : Prop} (h : pb mt pc st = some (z, φ, cnd)) (hφ : φ) (kt : cnd → gV mt d P z.1 lv z.2.2 M) (kf : ¬ cnd → gV mt d P z.2.1 lv z.2.2 M) : gV mt d P pc lv st M := by
  unfold pb at h
  cases hl : lk pc mt.2.2.2.2.2 with
  | none => rw [hl] at h; cases h
  | some x =>
    obtain ⟨nx, tg, ins⟩ := x
    rw [hl] at h
    dsimp only at h
    cases ins
    case if_icmp op o =>
      dsimp only at h
      split at h
      next y x rest => cases h; exact icmp_ok hl hφ.1 hφ.2 kt kf
      next => cases h
    case ifCond op o =>
      dsimp only at h
      split at h
      next x rest => cases h; exact ifc_ok hl hφ kt kf
      next => cases h
    all_goals cases h
theorem gV_ret {x : Int} (hl : lk pc mt.2.2.2.2.2 = some (nx, tg, .ireturn)) (ho : rOk mt.2.2.2.1 (vI x)) (hp : P (vI x) M) : gV mt d P pc lv [vI x] M := by
  intro p l e R s m args below meth c cells slots Q D ad A H0 cs C H locs ls hP hS hL
  obtain ⟨c1, c2, c3, c4, c5, c6, c7, c8, c9, c10⟩ := C
  obtain ⟨r1, r2, r3⟩ := row_of c9 hl
  exact c10 (vI x) M pc H locs ls hp ho hP hS r1
theorem gV_retv (hl : lk pc mt.2.2.2.2.2 = some (nx, tg, .return_)) (ho : rOk mt.2.2.2.1 none) (hp : P none M) : gV mt d P pc lv [] M := by
  intro p l e R s m args below meth c cells slots Q D ad A H0 cs C H locs ls hP hS hL
  obtain ⟨c1, c2, c3, c4, c5, c6, c7, c8, c9, c10⟩ := C
  obtain ⟨r1, r2, r3⟩ := row_of c9 hl
  exact c10 none M pc H locs ls hp ho hP hS r1
end GB
/-- the locals at the entry -/
def pad (as : List PV) (n : Nat) : List PV := as ++ List.replicate (n - as.length) none
theorem pad_args (ad : Nat → Nat) : ∀ (as : List PV) (k : Nat), (∀ v ∈ as, (∃ x, v = vI x) ∨ ∃ r, v = vR r) → lv_args k (as.map (cv ad)) = (as.mapIdx (fun j v => (k + j, cv ad v)))
  | [], k, _ => rfl
  | a :: as, k, h => by
    have h1 := pad_args ad as (k + 1) (fun v hv => h v (List.mem_cons_of_mem _ hv))
    have h2 : (cv ad a).category = 1 := by
      rcases h a List.mem_cons_self with ⟨x, rfl⟩ | ⟨r, rfl⟩ <;> rfl
    simp only [List.map_cons, lv_args, List.mapIdx_cons, h2]
    rw [if_neg (by decide), h1]
    simp only [Nat.add_zero, List.cons.injEq, true_and]
    apply List.mapIdx_eq_mapIdx_iff.mpr
    intro i hi
    simp only [Prod.mk.injEq, and_true]
    omega
theorem pad_sl (ad : Nat → Nat) : ∀ (as : List PV), (∀ v ∈ as, (∃ x, v = vI x) ∨ ∃ r, v = vR r) → (lg_sl (as.map (cv ad))).length = as.length
  | [], _ => rfl
  | a :: as, h => by
    have h1 := pad_sl ad as (fun v hv => h v (List.mem_cons_of_mem _ hv))
    simp only [lg_sl, List.map_cons, List.flatMap_cons, List.length_append] at h1 ⊢
    rw [h1]
    rcases h a List.mem_cons_self with ⟨x, rfl⟩ | ⟨r, rfl⟩ <;> simp [cv, Value.category, Nat.add_comm]

theorem wld_D {cs : Cs} {ad : Nat → Nat} {A A' : Nat → Prop} {M M' : Mem} (h : va_D A (wld cs ad M)) (hA : ∀ k, k < 74 → A' (ad k)) : va_D A' (wld cs ad M') := by
  have key : ∀ (i : Nat) (q : Nat × va_E), (wld cs ad M')[i]? = some q → ∃ q0, (wld cs ad M)[i]? = some q0 ∧ q0.1 = q.1 ∧ q.1 = ad i ∧ i < 74 := by
    intro i q hq
    have hl : i < (wld cs ad M').length := (List.getElem?_eq_some_iff.mp hq).1
    rw [wld_len] at hl
    obtain ⟨sh, h1, rfl⟩ := wld_at hq
    exact ⟨_, wld_get h1, rfl, rfl, hl⟩
  refine ⟨fun i j a b hi hj hab => ?_, fun k q hq => ?_⟩
  · obtain ⟨a0, h1, h2, -⟩ := key i a hi
    obtain ⟨b0, h3, h4, -⟩ := key j b hj
    exact h.1 i j a0 b0 h1 h3 (by rw [h2, h4, hab])
  · obtain ⟨q0, h1, h2, h3, h4⟩ := key k q hq
    rw [h3]
    exact hA k h4
theorem wld_A {cs : Cs} {ad : Nat → Nat} {A : Nat → Prop} {M : Mem} (h : va_D A (wld cs ad M)) (k : Nat) (hk : k < 74) : A (ad k) := by
  have hl : k < shL.length := hk
  have h1 : shp k = some (shL[k]'hl) := by unfold shp; rw [shf_eq]; exact List.getElem?_eq_getElem hl
  exact h.2 k _ (wld_get h1)
theorem tbl_good {w : Cond} (h : w ∈ lw_g) : (w.onTables && w.keeps) = true ∨ ∃ ty, w = .arrayClass ty := good_of_word (List.mem_filter.mp h).2
set_option maxHeartbeats 1000000 in
theorem gOk_of {mt : Mt} {d : Nat} {as : List PV} {M : Mem} {P : PV → Mem → Prop} (hm : mtOk mt) (ha : ∀ v ∈ as, (∃ x, v = vI x) ∨ ∃ r, v = vR r) (hlen : as.length ≤ mt.2.2.1) (h : gV mt d P 0 (pad as mt.2.2.1) [] M) : gOk mt d as M P := by
  intro l cs D ad
  refine Met.ofW (cc := mt.2.1) (maxL := mt.2.2.1) (ret := mt.2.2.2.1) hm.1 rfl ?_
  intro p e s m args below meth c s₁ B hml hv
  obtain ⟨rfl, hP, hK, hD0⟩ := hv
  have hx := B.exec
  have hb := B.bytes
  have hr := B.returns
  have hts := atoms_spec (ws := Cond.code mt.1 mt.2.1 mt.2.2.1 mt.2.2.2.1 :: lw_g) B.pre
  have hown : s.vm.findClass mt.1.cls = some m.cls := findClass_of_methodNamed B.named
  have hlocks := B.notSynchronized
  have hS : va_S (gF ad) s.heap s.heap [] := va_S.rf
  have hD : ∀ M', va_D (gF ad) (wld cs ad M') := fun M' => wld_D hD0 (fun k hk => ⟨k, hk, rfl⟩)
  have hl := lv_entry (as.map (cv ad)) (n := mt.2.2.1) (by rw [pad_sl ad as ha]; exact hlen)
  rw [lg_entry_eq]
  generalize (lg_sl (as.map (cv ad)) ++ List.replicate (mt.2.2.1 - (lg_sl (as.map (cv ad))).length) Slot.unset).toArray = ls at hl ⊢
  have hL : gL ad ls mt.2.2.1 (pad as mt.2.2.1) := by
    refine ⟨by simp [pad]; omega, hl.1, hl.2.1, ?_⟩
    rintro ⟨k, w⟩ hq
    refine hl.2.2 (k, w) ?_
    rw [pad_args ad as 0 ha]
    have key : ∀ v : Int ⊕ (Nat ⊕ Int), (pad as mt.2.2.1)[k]? = some (some v) → as[k]? = some (some v) := by
      intro v hv
      unfold pad at hv
      by_cases hk : k < as.length
      · rwa [List.getElem?_append_left hk] at hv
      · rw [List.getElem?_append_right (by omega)] at hv
        have := List.mem_of_getElem? hv
        have := List.eq_of_mem_replicate this
        cases this
    rw [lal_mem] at hq
    rcases hq with ⟨x, h1, rfl⟩ | ⟨r, h1, rfl⟩
    · refine List.mem_of_getElem? (i := k) ?_
      rw [List.getElem?_mapIdx, key _ h1]
      simp [cv]
    · refine List.mem_of_getElem? (i := k) ?_
      rw [List.getElem?_mapIdx, key _ h1]
      simp [cv]
  refine h p l e _ s m _ below meth c 0 0 _ D ad (gF ad) s.heap cs ⟨hx, hb, hml, hown, fun w hw => hts w (List.mem_cons_of_mem _ hw), hK, hD, ⟨Nat.le_refl _, Nat.le_refl _, Nat.le_refl _, Nat.le_refl _⟩, hm, ?_⟩ s.heap [] ls hP hS hL
  intro r M' pc H locs ls' hp ho hP' hS' hdg
  cases hret : mt.2.2.2.1 with
  | none =>
    rw [hret] at ho hr
    rcases r with _ | v
    · exact W.vret hx hb hr (fun t ht hW => ⟨⟨none, M', rfl, hp, by rw [ht]; exact hP'⟩, hS'.F ht⟩) hS'.2.2 hdg
    · exact ho.elim
  | some ty =>
    rw [hret] at ho hr
    rcases r with _ | x | r | x
    · cases ty <;> exact ho.elim
    · have hn : narrow ty (.int (Int32.ofInt x)) = .int (Int32.ofInt x) := by
        cases ty <;> first | rfl | exact ho.elim | exact nar_b ho
      exact W.zret hx hb hr hn (fun t ht hW => ⟨⟨vI x, M', rfl, hp, by rw [ht]; exact hP'⟩, hS'.F ht⟩) hS'.2.2 hdg
    · cases ty <;> exact ho.elim
    · cases ty <;> exact ho.elim
theorem run_go {p : Program} {l : Launch} {e : Env} {R : Room} {s : State} {m : MethodId} {args : Array Value} {below : List Frame} {meth : Method} {c : Code} {cells slots : Nat} {Q : State → Prop} {D : va_G} {ad : Nat → Nat} {A : Nat → Prop} {H0 H : Heap} {cs : Cs} {locs : List Loc} {pc : Nat} {ls : Array Slot} {st0 rest : List Value} {P : PV → Mem → Prop} {a : Array Value}
    (hr : va_Run p l e R s m args below meth c H locs cells slots 0 0 (F0 m pc ls st0) rest (gQ cs D ad P a) (gF ad)) (hS : va_S A H0 H locs) (hA : ∀ k, k < 74 → A (ad k))
    (kk : ∀ (r : PV) (M : Mem) (H1 : Heap) (locs1 : List Loc), P r M → va_P D vwCl (wld cs ad M) H1 → va_S A H0 H1 locs1 → W p l e R s m args below meth c H1 locs1 cells slots Q (F0 m (pc + 3) ls ((rv ad r).toList ++ rest))) : W p l e R s m args below meth c H locs cells slots Q (F0 m pc ls st0) := by
  have hf : ∀ q, gF ad q → A q := fun q ⟨k, hk, hq⟩ => hq ▸ hA k hk
  intro T hT X
  obtain ⟨v, st₀, t, T', L, h0, X', hL, e1, e2, ⟨⟨r, M, hv, hp, hb⟩, hz, hk⟩, st⟩ := hr T hT X
  cases hv
  rw [h0] at hz hk
  obtain ⟨t2, a1, b1⟩ := kk r M T'.heap (locs ++ L) hp (by rw [e1]; exact hb)
    ⟨Nat.le_trans hS.1 (by rw [e1]; exact hz), fun q h1 h2 => by rw [e1, hk q (Nat.lt_of_lt_of_le h1 hS.1) (fun z => h2 (hf q z))]; exact hS.2.1 q h1 h2, fun q hq => by
      rcases List.mem_append.mp hq with h | h
      · exact hS.2.2 q h
      · exact hf _ (hL q h)⟩ T' rfl X'
  exact ⟨t2, st t2 a1, b1⟩
/-- what the tables must say of a call: of an instance's method, of a static one -/
def siteV (own : String) (ix : Nat) (y : MethodName) (n : Nat) : Prop := Cond.methodLink own ix y ∈ lw_g ∧ Cond.instanceMethod y ∈ lw_g ∧ Cond.selects y.cls y y ∈ lw_g ∧ Cond.initialized y.cls ∈ lw_g ∧ (y.cls ≠ "java/lang/invoke/MethodHandle" ∧ y.cls ≠ "java/lang/invoke/VarHandle" ∧ (parseMethodDescriptor y.desc).map (fun d => d.parameters.length) = some n)
def siteS (own : String) (ix : Nat) (y : MethodName) (n : Nat) : Prop := Cond.methodLink own ix y ∈ lw_g ∧ Cond.static y ∈ lw_g ∧ Cond.initialized y.cls ∈ lw_g ∧ (y.cls ≠ "java/lang/invoke/MethodHandle" ∧ y.cls ≠ "java/lang/invoke/VarHandle" ∧ (parseMethodDescriptor y.desc).map (fun d => d.parameters.length) = some n)
theorem gW_blind {cs : Cs} {D : va_G} {ad : Nat → Nat} {as : List PV} {M : Mem} : FrameBlind (gW cs D ad as M) := fun a U g mk q => by
  obtain ⟨q0, qP, qK, qD⟩ := q
  exact ⟨q0, qP, va_K.moved (u := U) (U := U.calling g mk a) (Vm.Alike.refl U.vm) qK, qD⟩
def noL (l : List PV) : Bool := match l with
  | [] => true
  | some (.inr (.inr _)) :: _ => false
  | _ :: l => noL l
theorem noL_sum (ad : Nat → Nat) : ∀ (l : List PV), noL l = true → ((l.map (cv ad)).map fun v => v.category).sum = l.length
  | [], _ => rfl
  | none :: l, h => by
    have h1 := noL_sum ad l h
    simp only [List.map_cons, List.sum_cons, List.length_cons, h1]
    exact Nat.add_comm _ _
  | some (.inl x) :: l, h => by
    have h1 := noL_sum ad l h
    simp only [List.map_cons, List.sum_cons, List.length_cons, h1]
    exact Nat.add_comm _ _
  | some (.inr (.inl r)) :: l, h => by
    have h1 := noL_sum ad l h
    simp only [List.map_cons, List.sum_cons, List.length_cons, h1]
    exact Nat.add_comm _ _
  | some (.inr (.inr x)) :: l, h => by cases h
theorem rp_map (ad : Nat → Nat) (r : PV) (rest : List PV) : (rv ad r).toList ++ rest.map (cv ad) = (rp r rest).map (cv ad) := by
  cases r <;> rfl
section GCL
variable {mt mt' : Mt} {d : Nat} {P P' : PV → Mem → Prop} {pc nx tg ix n : Nat} {lv st as rest : List PV} {M : Mem}
theorem gV_callV {r ci : Nat} {fs : List (Option Nat)} {T : u_T} {N : Nat} (hl : lk pc mt.2.2.2.2.2 = some (nx, tg, .invokevirtual ix)) (hm : mtOk mt') (hs : siteV mt.1.cls ix mt'.1 n) (hn : as.length = n) (hst : st = as.reverse ++ vR r :: rest) (hr : shp r = some (.inl (ci, fs))) (hc : vwCl[ci]? = some (mt'.1.cls, T, N)) (hz : (noL rest && Nat.ble rest.length 8) = true)
    (hok : gOk mt' d (vR r :: as) M P') (kk : ∀ (r : PV) (M : Mem), P' r M → gV mt (d + 1) P nx lv (rp r rest) M) : gV mt (d + 1) P pc lv st M := by
  intro p l e R s m args below meth c cells slots Q D ad A H0 cs C H locs ls hP hS hL
  have C' := C
  obtain ⟨c1, c2, c3, c4, c5, c6, c7, c8, c9, c10⟩ := C
  obtain ⟨r1, r2, r3⟩ := row_of c9 hl
  dsimp only [iln] at r1 r2
  subst r2
  obtain ⟨s1, s2, s3, s4, s5⟩ := hs
  rw [Bool.and_eq_true] at hz
  have hz2 : rest.length ≤ 8 := Nat.le_of_ble_eq_true hz.2
  have hG : GoodIn lw_g (wsV mt.1.cls ix mt'.1.cls mt'.1 (Cond.code mt'.1 mt'.2.1 mt'.2.2.1 mt'.2.2.2.1 :: lw_g)) := by
    intro w hw
    have hw2 : w ∈ lw_g := by
      unfold wsV at hw
      simp only [List.cons_append, List.nil_append, List.mem_cons] at hw
      rcases hw with rfl | rfl | rfl | rfl | rfl | hw
      · exact s1
      · exact s2
      · exact s3
      · exact s4
      · exact hm.2.2.2.2
      · exact hw
    exact ⟨hw2, tbl_good hw2⟩
  have hm20 := hm.2.2.2.1
  have cw : CallW R s args mt.1.cls mt'.1.cls ix mt'.1 mt'.2.1 mt'.2.2.1 mt'.2.2.2.1 (Cond.code mt'.1 mt'.2.1 mt'.2.2.1 mt'.2.2.2.1 :: lw_g) (gRoom d) 0 0 n :=
    cwV n c5 hG rfl rfl rfl ⟨rfl, s5⟩ ⟨by show d + 1 ≤ R.frames; exact c8.1, by show 8 + (mt'.2.2.1 + 11) + 40 * d ≤ R.locals; have := c8.2.1; omega⟩
  refine run_go (va_runV (As := as.map (cv ad)) (rest := rest.map (cv ad)) ⟨c1, c2, c3, c4, c5⟩ (hok l cs D ad) cw ⟨gW_blind, va_recv c6 hP hc (wld_get hr), fun U hU hW => ⟨by rw [List.map_cons]; rfl, by rw [hU]; exact hP, va_K.moved hW.alike c6, wld_D (c7 M) (fun _ _ => trivial)⟩⟩ rfl (by rw [List.length_map]; exact hn) hL.2.1 (by rw [hst]; simp [cv]) (lv_room (by rw [noL_sum ad rest hz.1]; exact hz2)) r1 ⟨c8.2.2.1, c8.2.2.2⟩) hS (wld_A (c7 M)) (fun r M1 H1 locs1 h1 h2 h3 => ?_)
  rw [rp_map]
  exact kk r M1 h1 p l e R s m args below meth c cells slots Q D ad A H0 cs C' H1 locs1 ls h2 h3 hL
theorem gV_callS (hl : lk pc mt.2.2.2.2.2 = some (nx, tg, .invokestatic ix)) (hm : mtOk mt') (hs : siteS mt.1.cls ix mt'.1 n) (hn : as.length = n) (hst : st = as.reverse ++ rest) (hz : (noL rest && Nat.ble rest.length 8) = true)
    (hok : gOk mt' d as M P') (kk : ∀ (r : PV) (M : Mem), P' r M → gV mt (d + 1) P nx lv (rp r rest) M) : gV mt (d + 1) P pc lv st M := by
  intro p l e R s m args below meth c cells slots Q D ad A H0 cs C H locs ls hP hS hL
  have C' := C
  obtain ⟨c1, c2, c3, c4, c5, c6, c7, c8, c9, c10⟩ := C
  obtain ⟨r1, r2, r3⟩ := row_of c9 hl
  dsimp only [iln] at r1 r2
  subst r2
  obtain ⟨s1, s2, s4, s5⟩ := hs
  rw [Bool.and_eq_true] at hz
  have hz2 : rest.length ≤ 8 := Nat.le_of_ble_eq_true hz.2
  have hG : GoodIn lw_g (va_wsS mt.1.cls ix mt'.1 (Cond.code mt'.1 mt'.2.1 mt'.2.2.1 mt'.2.2.2.1 :: lw_g)) := by
    intro w hw
    have hw2 : w ∈ lw_g := by
      unfold va_wsS at hw
      simp only [List.cons_append, List.nil_append, List.mem_cons] at hw
      rcases hw with rfl | rfl | rfl | rfl | hw
      · exact s1
      · exact s2
      · exact s4
      · exact hm.2.2.2.2
      · exact hw
    exact ⟨hw2, tbl_good hw2⟩
  have hm20 := hm.2.2.2.1
  have cw := va_cwS (R := R) (rm := gRoom d) (mc := 0) (ms := 0) (bytes := mt'.2.1) (maxL := mt'.2.2.1) (ret := mt'.2.2.2.1) n c5 hG rfl rfl rfl s5 ⟨by show d + 1 ≤ R.frames; exact c8.1, by show 8 + (mt'.2.2.1 + 11) + 40 * d ≤ R.locals; have := c8.2.1; omega⟩
  refine run_go (va_runS (As := as.map (cv ad)) (rest := rest.map (cv ad)) ⟨c1, c2, c3, c4, c5⟩ (hok l cs D ad) cw ⟨gW_blind, fun U hU hW => ⟨rfl, by rw [hU]; exact hP, va_K.moved hW.alike c6, wld_D (c7 M) (fun _ _ => trivial)⟩⟩ rfl (by rw [List.length_map]; exact hn) hL.2.1 (by rw [hst]; simp) (lv_room (by rw [noL_sum ad rest hz.1]; exact hz2)) r1 ⟨c8.2.2.1, c8.2.2.2⟩) hS (wld_A (c7 M)) (fun r M1 H1 locs1 h1 h2 h3 => ?_)
  rw [rp_map]
  exact kk r M1 h1 p l e R s m args below meth c cells slots Q D ad A H0 cs C' H1 locs1 ls h2 h3 hL
end GCL
end
section
/-! words of the library calls: by program -/
theorem wd_min : Cond.methodLink RX5 121 ⟨"java/lang/Math", "min", "(II)I"⟩ ∈ lw_g ∧ Cond.static ⟨"java/lang/Math", "min", "(II)I"⟩ ∈ lw_g ∧ Cond.initialized "java/lang/Math" ∈ lw_g ∧ Cond.code ⟨"java/lang/Math", "min", "(II)I"⟩ prog_10_method_69_code 2 (some .int) ∈ lw_g := ⟨lw_gm 470 (by decide +kernel) rfl, lw_gm 471 (by decide +kernel) rfl, lw_gm 49 (by decide +kernel) rfl, lw_gm 472 (by decide +kernel) rfl⟩
theorem wd_copy : Cond.methodLink RX4 101 ⟨"java/lang/System", "arraycopy", "(Ljava/lang/Object;ILjava/lang/Object;II)V"⟩ ∈ lw_g ∧ Cond.native ⟨"java/lang/System", "arraycopy", "(Ljava/lang/Object;ILjava/lang/Object;II)V"⟩ ∈ lw_g ∧ Cond.static ⟨"java/lang/System", "arraycopy", "(Ljava/lang/Object;ILjava/lang/Object;II)V"⟩ ∈ lw_g ∧ Cond.initialized "java/lang/System" ∈ lw_g := ⟨lw_gm 621 (by decide +kernel) rfl, lw_gm 623 (by decide +kernel) rfl, lw_gm 622 (by decide +kernel) rfl, lw_gm 50 (by decide +kernel) rfl⟩
theorem wd_long : Cond.constantLong RX7 191 100 ∈ lw_g := lw_gm 921 (by decide +kernel) rfl
end
section
/-! Math.min, System.arraycopy, a long constant, lcmp, a switch. -/
section GX
variable {mt : Mt} {d : Nat} {P : PV → Mem → Prop} {pc nx tg : Nat} {lv st rest : List PV} {M : Mem}
theorem gV_min {x y : Int} (hl : lk pc mt.2.2.2.2.2 = some (nx, tg, .invokestatic 121)) (ho : mt.1.cls = RX5) (hx : rng x) (hy : rng y) (hz : (noL rest && Nat.ble rest.length 8) = true) (kk : gV mt (d + 1) P nx lv (vI (if y < x then y else x) :: rest) M) : gV mt (d + 1) P pc lv (vI y :: vI x :: rest) M := by
  intro p l e R s m args below meth c cells slots Q D ad A H0 cs C H locs ls hP hS hL
  have C' := C
  obtain ⟨c1, c2, c3, c4, c5, c6, c7, c8, c9, c10⟩ := C
  obtain ⟨r1, r2, r3⟩ := row_of c9 hl
  dsimp only [iln] at r1 r2
  subst r2
  obtain ⟨w1, w2, w3, w4⟩ := wd_min
  rw [Bool.and_eq_true] at hz
  have hz2 : rest.length ≤ 8 := Nat.le_of_ble_eq_true hz.2
  have k1 := kk p l e R s m args below meth c cells slots Q D ad A H0 cs C' H locs ls hP hS hL
  have e1 : cv ad (vI (if y < x then y else x)) = .int (if Int32.ofInt y < Int32.ofInt x then Int32.ofInt y else Int32.ofInt x) := by
    simp only [cv, i32_lt hy hx]
    split <;> rfl
  simp only [List.map_cons, e1] at k1
  rw [ho] at c4
  exact va_mmin c1 c2 (c3.trans hL.2.1.symm) c4 (c5 _ w1) (c5 _ w2) (c5 _ w3) (c5 _ w4) (by have := c8.1; omega) (by rw [noL_sum ad rest hz.1]; have := c8.2.1; omega) c8.2.2.1 c8.2.2.2 r1 k1
def mcp (M : Mem) (a b : Nat) (n : Int) : Mem := fun r i => if r = b ∧ 0 ≤ i ∧ i < n then M a i else M r i
theorem wld_set2 {cs : Cs} {ad : Nat → Nat} {M M' : Mem} {r : Nat} {sh : Shp} {E : va_E} (h : shp r = some sh) (hM : ∀ r', r' ≠ r → M' r' = M r') (hE : E = cel cs ad M' r sh) : (wld cs ad M).set r (ad r, E) = wld cs ad M' := by
  subst hE
  apply List.ext_getElem?
  intro k
  unfold shp at h
  rw [shf_eq] at h
  have hl : r < shL.length := (List.getElem?_eq_some_iff.mp h).1
  by_cases hk : k = r
  · subst hk
    rw [List.getElem?_set_self (by simpa [wld] using hl)]
    simp [wld, List.getElem?_mapIdx, h]
  · rw [List.getElem?_set_ne (fun q => hk q.symm)]
    simp only [wld, List.getElem?_mapIdx]
    cases shL[k]? with
    | none => rfl
    | some sh' =>
      have e := hM k hk
      simp only [Option.map_some, Option.some.injEq, Prod.mk.injEq, true_and]
      rcases sh' with ⟨ci, fs⟩ | ⟨q, n⟩
      · simp [cel, fvl, e]
      · match q with
        | 0 => simp [cel, e]
        | 1 => simp [cel, e]
        | b + 2 => rfl
theorem gV_copy {a b n : Nat} (hl : lk pc mt.2.2.2.2.2 = some (nx, tg, .invokestatic 101)) (ho : mt.1.cls = RX4) (ha : shp a = some (.inr (0, n))) (hb : shp b = some (.inr (0, n))) (hn : n < 2147483648) (kk : gV mt (d + 1) P nx lv [] (mcp M a b n)) : gV mt (d + 1) P pc lv [vI n, vI 0, vR b, vI 0, vR a] M := by
  intro p l e R s m args below meth c cells slots Q D ad A H0 cs C H locs ls hP hS hL
  have C' := C
  obtain ⟨c1, c2, c3, c4, c5, c6, c7, c8, c9, c10⟩ := C
  obtain ⟨r1, r2, r3⟩ := row_of c9 hl
  dsimp only [iln] at r1 r2
  subst r2
  obtain ⟨w1, w2, w3, w4⟩ := wd_copy
  rw [ho] at c4
  have hnn : (Int32.ofInt (n : Int)).toNatClampNeg = n := by rw [i32_clamp (by omega) (by omega)]; omega
  have h00 : (Int32.ofInt 0).toNatClampNeg = 0 := by decide
  have hlt : ∀ z : Int, rng z → 0 ≤ z → ¬ Int32.ofInt z < 0 := fun z h1 h2 q => by
    have := (i32_lt (x := z) (y := 0) h1 rng_0).mp q
    omega
  refine va_copyi c1 c2 (c3.trans hL.2.1.symm) c4 (c5 _ w1) (c5 _ w2) (c5 _ w3) (c5 _ w4) c6 hP (c7 M) hS a b 0 0 (wld_get ha) (wld_get hb) rfl rfl rfl (hlt 0 rng_0 (by omega)) (hlt 0 rng_0 (by omega)) (hlt n ⟨by omega, by omega⟩ (by omega)) (by rw [h00, hnn]; omega) (by rw [h00, hnn]; omega) (fun i hi => rfl) (by have := c8.1; omega) ?_ r1 (fun H1 locs1 h1 h2 h3 => ?_)
  · have : nativeFrameWords "java/lang/System" "arraycopy" 5 + 11 ≤ 40 := by decide +kernel
    have := c8.2.1
    simp only [List.map_nil, List.sum_nil]
    omega
  · have h1 : va_P D vwCl (wld cs ad (mcp M a b n)) H1 := by
      rw [← wld_set2 (M := M) hb (fun r' h => by funext i; simp [mcp, h]) rfl]
      rw [h00, hnn] at h1
      have e2 : va_cpy (fun j : Nat => Int32.ofInt (M a j)) (fun j : Nat => Int32.ofInt (M b j)) 0 0 n = fun j : Nat => Int32.ofInt (mcp M a b n b j) := by
        funext j
        unfold va_cpy mcp
        by_cases hj : j < n
        · rw [if_pos ⟨by omega, by omega⟩, if_pos ⟨rfl, by omega, by omega⟩]
          simp
        · rw [if_neg (by omega), if_neg (by omega)]
      rw [e2] at h1
      exact h1
    exact kk p l e R s m args below meth c cells slots Q D ad A H0 cs C' H1 locs1 ls h1 h3 hL
theorem gV_ldc (hl : lk pc mt.2.2.2.2.2 = some (nx, tg, .ldc2_w 191)) (ho : mt.1.cls = RX7) (kk : gV mt d P nx lv (vL 100 :: st) M) : gV mt d P pc lv st M := by
  intro p l e R s m args below meth c cells slots Q D ad A H0 cs C H locs ls hP hS hL
  have C' := C
  obtain ⟨c1, c2, c3, c4, c5, c6, c7, c8, c9, c10⟩ := C
  obtain ⟨r1, r2, r3⟩ := row_of c9 hl
  dsimp only [iln] at r1 r2
  subst r2
  rw [ho] at c4
  exact lv_ldc2 c1 c2 c4 (c5 _ wd_long) r1 (kk p l e R s m args below meth c cells slots Q D ad A H0 cs C' H locs ls hP hS hL)
def rng64 (x : Int) : Prop := -9223372036854775808 ≤ x ∧ x ≤ 9223372036854775807
theorem gV_lcmp {x y : Int} (hl : lk pc mt.2.2.2.2.2 = some (nx, tg, .lcmp)) (hx : rng64 x) (hy : rng64 y) (kk : gV mt d P nx lv (vI (if y < x then 1 else if x = y then 0 else -1) :: rest) M) : gV mt d P pc lv (vL y :: vL x :: rest) M := by
  intro p l e R s m args below meth c cells slots Q D ad A H0 cs C H locs ls hP hS hL
  have C' := C
  obtain ⟨c1, c2, c3, c4, c5, c6, c7, c8, c9, c10⟩ := C
  obtain ⟨r1, r2, r3⟩ := row_of c9 hl
  dsimp only [iln] at r1 r2
  subst r2
  have k1 := kk p l e R s m args below meth c cells slots Q D ad A H0 cs C' H locs ls hP hS hL
  have e1 : cv ad (vI (if y < x then 1 else if x = y then 0 else -1)) = .int (lg_cmp (Int64.ofInt x) (Int64.ofInt y)) := by
    have q1 := i64_toInt hx.1 hx.2
    have q2 := i64_toInt hy.1 hy.2
    simp only [cv, lg_cmp, gt_iff_lt, Int64.lt_iff_toInt_lt, ← Int64.toInt_inj, q1, q2]
    split
    · rfl
    · split <;> rfl
  simp only [List.map_cons, e1] at k1
  exact W.lcmp c1 c2 r1 k1
theorem gV_swIn {df lo hi : Int} {os : Array Int} {x off : Int} (tgt : Nat) (hl : lk pc mt.2.2.2.2.2 = some (nx, tg, .tableswitch df lo hi os)) (hx : rng x) (h1 : lo ≤ x) (h2 : x ≤ hi) (ho : os[(x - lo).toNat]? = some off) (ht : (pc : Int) + off = (tgt : Int)) (kk : gV mt d P tgt lv rest M) : gV mt d P pc lv (vI x :: rest) M := by
  intro p l e R s m args below meth c cells slots Q D ad A H0 cs C H locs ls hP hS hL
  have C' := C
  obtain ⟨c1, c2, c3, c4, c5, c6, c7, c8, c9, c10⟩ := C
  obtain ⟨r1, r2, r3⟩ := row_of c9 hl
  exact lv_tableIn c1 c2 r1 (by rw [i32_toInt hx]; omega) (by rw [i32_toInt hx]; omega) (by rw [i32_toInt hx]; exact ho) ht (kk p l e R s m args below meth c cells slots Q D ad A H0 cs C' H locs ls hP hS hL)
theorem gV_swOut {df lo hi : Int} {os : Array Int} {x : Int} (tgt : Nat) (hl : lk pc mt.2.2.2.2.2 = some (nx, tg, .tableswitch df lo hi os)) (hx : rng x) (h1 : x < lo ∨ hi < x) (ht : (pc : Int) + df = (tgt : Int)) (kk : gV mt d P tgt lv rest M) : gV mt d P pc lv (vI x :: rest) M := by
  intro p l e R s m args below meth c cells slots Q D ad A H0 cs C H locs ls hP hS hL
  have C' := C
  obtain ⟨c1, c2, c3, c4, c5, c6, c7, c8, c9, c10⟩ := C
  obtain ⟨r1, r2, r3⟩ := row_of c9 hl
  exact lv_tableOut c1 c2 r1 (by rw [i32_toInt hx]; exact h1) ht (kk p l e R s m args below meth c cells slots Q D ad A H0 cs C' H locs ls hP hS hL)
end GX
end
