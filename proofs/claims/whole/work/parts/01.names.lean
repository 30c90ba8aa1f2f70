-- ===== PART A: goes FIRST, ahead of the names: the tables' words, and 'selects' of the private methods out of them =====
/-- a private method of a class that the tables say can be made, by its rows of tables_1 -/
def lw_okq (q : MethodName × Nat) : Prop := (q.1.cls ≠ "java/lang/invoke/MethodHandle" ∧ q.1.cls ≠ "java/lang/invoke/VarHandle") ∧ Cond.instantiable q.1.cls q.2 ∈ tables_1 ∧ Cond.privateMethod q.1 ∈ tables_1 ∧ Cond.instanceMethod q.1 ∈ tables_1
theorem lw_p0 : lw_okq (⟨"BundleLinks$Traffic", "release", "(I)I"⟩, 7) := ⟨⟨by decide +kernel, by decide +kernel⟩, List.mem_of_getElem? (i := 227) (by decide +kernel), List.mem_of_getElem? (i := 336) (by decide +kernel), List.mem_of_getElem? (i := 337) (by decide +kernel)⟩
theorem lw_p1 : lw_okq (⟨"BundleLinks$Traffic", "enqueue", "(II)V"⟩, 7) := ⟨⟨by decide +kernel, by decide +kernel⟩, List.mem_of_getElem? (i := 227) (by decide +kernel), List.mem_of_getElem? (i := 340) (by decide +kernel), List.mem_of_getElem? (i := 341) (by decide +kernel)⟩
theorem lw_p2 : lw_okq (⟨"BundleLinks$Traffic", "leave", "(I)V"⟩, 7) := ⟨⟨by decide +kernel, by decide +kernel⟩, List.mem_of_getElem? (i := 227) (by decide +kernel), List.mem_of_getElem? (i := 427) (by decide +kernel), List.mem_of_getElem? (i := 428) (by decide +kernel)⟩
theorem lw_p3 : lw_okq (⟨"BundleLinks$Traffic", "arrive", "(I)V"⟩, 7) := ⟨⟨by decide +kernel, by decide +kernel⟩, List.mem_of_getElem? (i := 227) (by decide +kernel), List.mem_of_getElem? (i := 434) (by decide +kernel), List.mem_of_getElem? (i := 435) (by decide +kernel)⟩
theorem lw_p4 : lw_okq (⟨"BundleLinks$Traffic", "letOut", "(I)V"⟩, 7) := ⟨⟨by decide +kernel, by decide +kernel⟩, List.mem_of_getElem? (i := 227) (by decide +kernel), List.mem_of_getElem? (i := 438) (by decide +kernel), List.mem_of_getElem? (i := 439) (by decide +kernel)⟩
theorem lw_p5 : lw_okq (⟨"BundleLinks$Traffic", "letOutInOrder", "()V"⟩, 7) := ⟨⟨by decide +kernel, by decide +kernel⟩, List.mem_of_getElem? (i := 227) (by decide +kernel), List.mem_of_getElem? (i := 446) (by decide +kernel), List.mem_of_getElem? (i := 447) (by decide +kernel)⟩
theorem lw_p6 : lw_okq (⟨"BundleLinks$Traffic", "settle", "(I)V"⟩, 7) := ⟨⟨by decide +kernel, by decide +kernel⟩, List.mem_of_getElem? (i := 227) (by decide +kernel), List.mem_of_getElem? (i := 451) (by decide +kernel), List.mem_of_getElem? (i := 452) (by decide +kernel)⟩
theorem lw_p7 : lw_okq (⟨"BundleLinks$Traffic", "mayReach", "(II)Z"⟩, 7) := ⟨⟨by decide +kernel, by decide +kernel⟩, List.mem_of_getElem? (i := 227) (by decide +kernel), List.mem_of_getElem? (i := 455) (by decide +kernel), List.mem_of_getElem? (i := 456) (by decide +kernel)⟩
theorem lw_p8 : lw_okq (⟨"BundleLinks$Traffic", "reach", "(II)V"⟩, 7) := ⟨⟨by decide +kernel, by decide +kernel⟩, List.mem_of_getElem? (i := 227) (by decide +kernel), List.mem_of_getElem? (i := 459) (by decide +kernel), List.mem_of_getElem? (i := 460) (by decide +kernel)⟩
theorem lw_p9 : lw_okq (⟨"BundleLinks$Traffic", "loseLetters", "(I)I"⟩, 7) := ⟨⟨by decide +kernel, by decide +kernel⟩, List.mem_of_getElem? (i := 227) (by decide +kernel), List.mem_of_getElem? (i := 488) (by decide +kernel), List.mem_of_getElem? (i := 489) (by decide +kernel)⟩
theorem lw_p10 : lw_okq (⟨"BundleLinks$Traffic", "upLinkWithFewestBuckets", "()I"⟩, 7) := ⟨⟨by decide +kernel, by decide +kernel⟩, List.mem_of_getElem? (i := 227) (by decide +kernel), List.mem_of_getElem? (i := 493) (by decide +kernel), List.mem_of_getElem? (i := 494) (by decide +kernel)⟩
theorem lw_p11 : lw_okq (⟨"BundleLinks$Planner", "measure", "(I)V"⟩, 12) := ⟨⟨by decide +kernel, by decide +kernel⟩, List.mem_of_getElem? (i := 257) (by decide +kernel), List.mem_of_getElem? (i := 556) (by decide +kernel), List.mem_of_getElem? (i := 557) (by decide +kernel)⟩
theorem lw_p12 : lw_okq (⟨"BundleLinks$Planner", "isWithinShare", "(II)Z"⟩, 12) := ⟨⟨by decide +kernel, by decide +kernel⟩, List.mem_of_getElem? (i := 257) (by decide +kernel), List.mem_of_getElem? (i := 561) (by decide +kernel), List.mem_of_getElem? (i := 562) (by decide +kernel)⟩
theorem lw_p13 : lw_okq (⟨"BundleLinks$Planner", "place", "(II)V"⟩, 12) := ⟨⟨by decide +kernel, by decide +kernel⟩, List.mem_of_getElem? (i := 257) (by decide +kernel), List.mem_of_getElem? (i := 574) (by decide +kernel), List.mem_of_getElem? (i := 575) (by decide +kernel)⟩
theorem lw_p14 : lw_okq (⟨"BundleLinks$Planner", "keep", "(I)V"⟩, 12) := ⟨⟨by decide +kernel, by decide +kernel⟩, List.mem_of_getElem? (i := 257) (by decide +kernel), List.mem_of_getElem? (i := 578) (by decide +kernel), List.mem_of_getElem? (i := 579) (by decide +kernel)⟩
theorem lw_p15 : lw_okq (⟨"BundleLinks$Planner", "placeOn", "(III)V"⟩, 12) := ⟨⟨by decide +kernel, by decide +kernel⟩, List.mem_of_getElem? (i := 257) (by decide +kernel), List.mem_of_getElem? (i := 585) (by decide +kernel), List.mem_of_getElem? (i := 586) (by decide +kernel)⟩
def lw_privs_1 : List (MethodName × Nat) := [(⟨"BundleLinks$Traffic", "release", "(I)I"⟩, 7), (⟨"BundleLinks$Traffic", "enqueue", "(II)V"⟩, 7), (⟨"BundleLinks$Traffic", "leave", "(I)V"⟩, 7), (⟨"BundleLinks$Traffic", "arrive", "(I)V"⟩, 7), (⟨"BundleLinks$Traffic", "letOut", "(I)V"⟩, 7), (⟨"BundleLinks$Traffic", "letOutInOrder", "()V"⟩, 7), (⟨"BundleLinks$Traffic", "settle", "(I)V"⟩, 7), (⟨"BundleLinks$Traffic", "mayReach", "(II)Z"⟩, 7), (⟨"BundleLinks$Traffic", "reach", "(II)V"⟩, 7), (⟨"BundleLinks$Traffic", "loseLetters", "(I)I"⟩, 7), (⟨"BundleLinks$Traffic", "upLinkWithFewestBuckets", "()I"⟩, 7), (⟨"BundleLinks$Planner", "measure", "(I)V"⟩, 12), (⟨"BundleLinks$Planner", "isWithinShare", "(II)Z"⟩, 12), (⟨"BundleLinks$Planner", "place", "(II)V"⟩, 12), (⟨"BundleLinks$Planner", "keep", "(I)V"⟩, 12), (⟨"BundleLinks$Planner", "placeOn", "(III)V"⟩, 12)]
theorem lw_r1 : ∀ q ∈ lw_privs_1, lw_okq q := List.forall_mem_cons.mpr ⟨lw_p0, List.forall_mem_cons.mpr ⟨lw_p1, List.forall_mem_cons.mpr ⟨lw_p2, List.forall_mem_cons.mpr ⟨lw_p3, List.forall_mem_cons.mpr ⟨lw_p4, List.forall_mem_cons.mpr ⟨lw_p5, List.forall_mem_cons.mpr ⟨lw_p6, List.forall_mem_cons.mpr ⟨lw_p7, List.forall_mem_cons.mpr ⟨lw_p8, List.forall_mem_cons.mpr ⟨lw_p9, List.forall_mem_cons.mpr ⟨lw_p10, List.forall_mem_cons.mpr ⟨lw_p11, List.forall_mem_cons.mpr ⟨lw_p12, List.forall_mem_cons.mpr ⟨lw_p13, List.forall_mem_cons.mpr ⟨lw_p14, List.forall_mem_cons.mpr ⟨lw_p15, fun _ h => absurd h List.not_mem_nil⟩⟩⟩⟩⟩⟩⟩⟩⟩⟩⟩⟩⟩⟩⟩⟩
theorem lw_p16 : lw_okq (⟨"BundleLinksModel", "takes", "(I)I"⟩, 36) := ⟨⟨by decide +kernel, by decide +kernel⟩, List.mem_of_getElem? (i := 593) (by decide +kernel), List.mem_of_getElem? (i := 715) (by decide +kernel), List.mem_of_getElem? (i := 716) (by decide +kernel)⟩
theorem lw_p17 : lw_okq (⟨"BundleLinksModel", "lets", "(I)I"⟩, 36) := ⟨⟨by decide +kernel, by decide +kernel⟩, List.mem_of_getElem? (i := 593) (by decide +kernel), List.mem_of_getElem? (i := 719) (by decide +kernel), List.mem_of_getElem? (i := 720) (by decide +kernel)⟩
theorem lw_p18 : lw_okq (⟨"BundleLinksModel", "queue", "(II)V"⟩, 36) := ⟨⟨by decide +kernel, by decide +kernel⟩, List.mem_of_getElem? (i := 593) (by decide +kernel), List.mem_of_getElem? (i := 723) (by decide +kernel), List.mem_of_getElem? (i := 724) (by decide +kernel)⟩
theorem lw_p19 : lw_okq (⟨"BundleLinksModel", "isFlow", "(I)Z"⟩, 36) := ⟨⟨by decide +kernel, by decide +kernel⟩, List.mem_of_getElem? (i := 593) (by decide +kernel), List.mem_of_getElem? (i := 735) (by decide +kernel), List.mem_of_getElem? (i := 736) (by decide +kernel)⟩
theorem lw_p20 : lw_okq (⟨"BundleLinksModel", "hasOpen", "(I)Z"⟩, 36) := ⟨⟨by decide +kernel, by decide +kernel⟩, List.mem_of_getElem? (i := 593) (by decide +kernel), List.mem_of_getElem? (i := 743) (by decide +kernel), List.mem_of_getElem? (i := 744) (by decide +kernel)⟩
theorem lw_p21 : lw_okq (⟨"BundleLinksModel", "bucketNow", "(I)I"⟩, 36) := ⟨⟨by decide +kernel, by decide +kernel⟩, List.mem_of_getElem? (i := 593) (by decide +kernel), List.mem_of_getElem? (i := 747) (by decide +kernel), List.mem_of_getElem? (i := 748) (by decide +kernel)⟩
theorem lw_p22 : lw_okq (⟨"BundleLinksModel", "held", "(I)I"⟩, 36) := ⟨⟨by decide +kernel, by decide +kernel⟩, List.mem_of_getElem? (i := 593) (by decide +kernel), List.mem_of_getElem? (i := 763) (by decide +kernel), List.mem_of_getElem? (i := 764) (by decide +kernel)⟩
theorem lw_p23 : lw_okq (⟨"BundleLinksModel", "ofFlowIn", "(II)I"⟩, 36) := ⟨⟨by decide +kernel, by decide +kernel⟩, List.mem_of_getElem? (i := 593) (by decide +kernel), List.mem_of_getElem? (i := 767) (by decide +kernel), List.mem_of_getElem? (i := 768) (by decide +kernel)⟩
theorem lw_p24 : lw_okq (⟨"BundleLinksModel", "tick1", "()V"⟩, 36) := ⟨⟨by decide +kernel, by decide +kernel⟩, List.mem_of_getElem? (i := 593) (by decide +kernel), List.mem_of_getElem? (i := 775) (by decide +kernel), List.mem_of_getElem? (i := 776) (by decide +kernel)⟩
theorem lw_p25 : lw_okq (⟨"BundleLinksModel", "firstQueued", "(I)I"⟩, 36) := ⟨⟨by decide +kernel, by decide +kernel⟩, List.mem_of_getElem? (i := 593) (by decide +kernel), List.mem_of_getElem? (i := 779) (by decide +kernel), List.mem_of_getElem? (i := 780) (by decide +kernel)⟩
theorem lw_p26 : lw_okq (⟨"BundleLinksModel", "firstArriving", "(I)I"⟩, 36) := ⟨⟨by decide +kernel, by decide +kernel⟩, List.mem_of_getElem? (i := 593) (by decide +kernel), List.mem_of_getElem? (i := 783) (by decide +kernel), List.mem_of_getElem? (i := 784) (by decide +kernel)⟩
theorem lw_p27 : lw_okq (⟨"BundleLinksModel", "comesOut", "(I)V"⟩, 36) := ⟨⟨by decide +kernel, by decide +kernel⟩, List.mem_of_getElem? (i := 593) (by decide +kernel), List.mem_of_getElem? (i := 787) (by decide +kernel), List.mem_of_getElem? (i := 788) (by decide +kernel)⟩
theorem lw_p28 : lw_okq (⟨"BundleLinksModel", "isNext", "(I)Z"⟩, 36) := ⟨⟨by decide +kernel, by decide +kernel⟩, List.mem_of_getElem? (i := 593) (by decide +kernel), List.mem_of_getElem? (i := 791) (by decide +kernel), List.mem_of_getElem? (i := 792) (by decide +kernel)⟩
theorem lw_p29 : lw_okq (⟨"BundleLinksModel", "settle", "(I)I"⟩, 36) := ⟨⟨by decide +kernel, by decide +kernel⟩, List.mem_of_getElem? (i := 593) (by decide +kernel), List.mem_of_getElem? (i := 795) (by decide +kernel), List.mem_of_getElem? (i := 796) (by decide +kernel)⟩
theorem lw_p30 : lw_okq (⟨"BundleLinksModel", "canCome", "(II)Z"⟩, 36) := ⟨⟨by decide +kernel, by decide +kernel⟩, List.mem_of_getElem? (i := 593) (by decide +kernel), List.mem_of_getElem? (i := 799) (by decide +kernel), List.mem_of_getElem? (i := 800) (by decide +kernel)⟩
theorem lw_p31 : lw_okq (⟨"BundleLinksModel", "isLink", "(I)Z"⟩, 36) := ⟨⟨by decide +kernel, by decide +kernel⟩, List.mem_of_getElem? (i := 593) (by decide +kernel), List.mem_of_getElem? (i := 810) (by decide +kernel), List.mem_of_getElem? (i := 811) (by decide +kernel)⟩
def lw_privs_2 : List (MethodName × Nat) := [(⟨"BundleLinksModel", "takes", "(I)I"⟩, 36), (⟨"BundleLinksModel", "lets", "(I)I"⟩, 36), (⟨"BundleLinksModel", "queue", "(II)V"⟩, 36), (⟨"BundleLinksModel", "isFlow", "(I)Z"⟩, 36), (⟨"BundleLinksModel", "hasOpen", "(I)Z"⟩, 36), (⟨"BundleLinksModel", "bucketNow", "(I)I"⟩, 36), (⟨"BundleLinksModel", "held", "(I)I"⟩, 36), (⟨"BundleLinksModel", "ofFlowIn", "(II)I"⟩, 36), (⟨"BundleLinksModel", "tick1", "()V"⟩, 36), (⟨"BundleLinksModel", "firstQueued", "(I)I"⟩, 36), (⟨"BundleLinksModel", "firstArriving", "(I)I"⟩, 36), (⟨"BundleLinksModel", "comesOut", "(I)V"⟩, 36), (⟨"BundleLinksModel", "isNext", "(I)Z"⟩, 36), (⟨"BundleLinksModel", "settle", "(I)I"⟩, 36), (⟨"BundleLinksModel", "canCome", "(II)Z"⟩, 36), (⟨"BundleLinksModel", "isLink", "(I)Z"⟩, 36)]
theorem lw_r2 : ∀ q ∈ lw_privs_2, lw_okq q := List.forall_mem_cons.mpr ⟨lw_p16, List.forall_mem_cons.mpr ⟨lw_p17, List.forall_mem_cons.mpr ⟨lw_p18, List.forall_mem_cons.mpr ⟨lw_p19, List.forall_mem_cons.mpr ⟨lw_p20, List.forall_mem_cons.mpr ⟨lw_p21, List.forall_mem_cons.mpr ⟨lw_p22, List.forall_mem_cons.mpr ⟨lw_p23, List.forall_mem_cons.mpr ⟨lw_p24, List.forall_mem_cons.mpr ⟨lw_p25, List.forall_mem_cons.mpr ⟨lw_p26, List.forall_mem_cons.mpr ⟨lw_p27, List.forall_mem_cons.mpr ⟨lw_p28, List.forall_mem_cons.mpr ⟨lw_p29, List.forall_mem_cons.mpr ⟨lw_p30, List.forall_mem_cons.mpr ⟨lw_p31, fun _ h => absurd h List.not_mem_nil⟩⟩⟩⟩⟩⟩⟩⟩⟩⟩⟩⟩⟩⟩⟩⟩
theorem lw_p32 : lw_okq (⟨"BundleLinksModel", "bucketsOn", "(I)I"⟩, 36) := ⟨⟨by decide +kernel, by decide +kernel⟩, List.mem_of_getElem? (i := 593) (by decide +kernel), List.mem_of_getElem? (i := 822) (by decide +kernel), List.mem_of_getElem? (i := 823) (by decide +kernel)⟩
theorem lw_p33 : lw_okq (⟨"BundleLinksModel", "inState", "(II)I"⟩, 36) := ⟨⟨by decide +kernel, by decide +kernel⟩, List.mem_of_getElem? (i := 593) (by decide +kernel), List.mem_of_getElem? (i := 838) (by decide +kernel), List.mem_of_getElem? (i := 839) (by decide +kernel)⟩
theorem lw_p34 : lw_okq (⟨"BundleLinksModel", "load", "(I)I"⟩, 36) := ⟨⟨by decide +kernel, by decide +kernel⟩, List.mem_of_getElem? (i := 593) (by decide +kernel), List.mem_of_getElem? (i := 842) (by decide +kernel), List.mem_of_getElem? (i := 843) (by decide +kernel)⟩
theorem lw_p35 : lw_okq (⟨"BundleLinksModel", "rates", "(I)I"⟩, 36) := ⟨⟨by decide +kernel, by decide +kernel⟩, List.mem_of_getElem? (i := 593) (by decide +kernel), List.mem_of_getElem? (i := 846) (by decide +kernel), List.mem_of_getElem? (i := 847) (by decide +kernel)⟩
theorem lw_p36 : lw_okq (⟨"BundleLinksModel", "noneUp", "()Z"⟩, 36) := ⟨⟨by decide +kernel, by decide +kernel⟩, List.mem_of_getElem? (i := 593) (by decide +kernel), List.mem_of_getElem? (i := 874) (by decide +kernel), List.mem_of_getElem? (i := 875) (by decide +kernel)⟩
theorem lw_p37 : lw_okq (⟨"BundleLinksModel", "isEven", "(I)Z"⟩, 36) := ⟨⟨by decide +kernel, by decide +kernel⟩, List.mem_of_getElem? (i := 593) (by decide +kernel), List.mem_of_getElem? (i := 878) (by decide +kernel), List.mem_of_getElem? (i := 879) (by decide +kernel)⟩
theorem lw_p38 : lw_okq (⟨"BundleLinksModel", "nextUp", "(I)I"⟩, 36) := ⟨⟨by decide +kernel, by decide +kernel⟩, List.mem_of_getElem? (i := 593) (by decide +kernel), List.mem_of_getElem? (i := 887) (by decide +kernel), List.mem_of_getElem? (i := 888) (by decide +kernel)⟩
theorem lw_p39 : lw_okq (⟨"BundleLinksModel", "turns", "()Z"⟩, 36) := ⟨⟨by decide +kernel, by decide +kernel⟩, List.mem_of_getElem? (i := 593) (by decide +kernel), List.mem_of_getElem? (i := 891) (by decide +kernel), List.mem_of_getElem? (i := 892) (by decide +kernel)⟩
def lw_privs_3 : List (MethodName × Nat) := [(⟨"BundleLinksModel", "bucketsOn", "(I)I"⟩, 36), (⟨"BundleLinksModel", "inState", "(II)I"⟩, 36), (⟨"BundleLinksModel", "load", "(I)I"⟩, 36), (⟨"BundleLinksModel", "rates", "(I)I"⟩, 36), (⟨"BundleLinksModel", "noneUp", "()Z"⟩, 36), (⟨"BundleLinksModel", "isEven", "(I)Z"⟩, 36), (⟨"BundleLinksModel", "nextUp", "(I)I"⟩, 36), (⟨"BundleLinksModel", "turns", "()Z"⟩, 36)]
theorem lw_r3 : ∀ q ∈ lw_privs_3, lw_okq q := List.forall_mem_cons.mpr ⟨lw_p32, List.forall_mem_cons.mpr ⟨lw_p33, List.forall_mem_cons.mpr ⟨lw_p34, List.forall_mem_cons.mpr ⟨lw_p35, List.forall_mem_cons.mpr ⟨lw_p36, List.forall_mem_cons.mpr ⟨lw_p37, List.forall_mem_cons.mpr ⟨lw_p38, List.forall_mem_cons.mpr ⟨lw_p39, fun _ h => absurd h List.not_mem_nil⟩⟩⟩⟩⟩⟩⟩⟩
def lw_privs : List (MethodName × Nat) := lw_privs_1 ++ (lw_privs_2 ++ (lw_privs_3))
def lw_tbl : List Cond := k2_sels lw_privs ++ tables_1
theorem lw_privs_ok : ∀ q ∈ lw_privs, lw_okq q := by
  show ∀ q ∈ lw_privs_1 ++ (lw_privs_2 ++ (lw_privs_3)), lw_okq q
  exact List.forall_mem_append.mpr ⟨lw_r1, List.forall_mem_append.mpr ⟨lw_r2, lw_r3⟩⟩
/-! ===== BEGIN printed: names, fields, word lists, decode rows ===== -/
def RX0 : String := "BundleLinks$Buckets"
def TX0 : u_T := fun k => match k with
  | 0 => ("BundleLinks$Buckets", "on", "[I", true)
  | 1 => ("BundleLinks$Buckets", "to", "[I", true)
  | 2 => ("BundleLinks$Buckets", "holds", "[Z", true)
  | 3 => ("BundleLinks$Buckets", "held", "[I", true)
  | _ => ("BundleLinks$Buckets", "moved", "[I", true)
def tyX0 : Nat → FieldType := fun k => match k with
  | 0 => .array .int
  | 1 => .array .int
  | 2 => .array .boolean
  | 3 => .array .int
  | _ => .array .int
abbrev wsX00 : List Cond := u_ws RX0 TX0 5
theorem nmX0 : ∀ a, a < 5 → ∀ b, b < 5 → a ≠ b → (TX0 a).2.1 ≠ (TX0 b).2.1 := by decide +kernel
theorem tyX0_ok : ∀ k, k < 5 → parseFieldDescriptor (TX0 k).2.2.1 = some (tyX0 k) := by decide +kernel
abbrev cX0_init : ByteArray := prog_2_method_1_code
def yX0_init : MethodName := ⟨RX0, "<init>", "()V"⟩
abbrev cX0_isUnsettled : ByteArray := prog_2_method_2_code
def yX0_isUnsettled : MethodName := ⟨RX0, "isUnsettled", "(I)Z"⟩
abbrev cX0_isAnyUnsettled : ByteArray := prog_2_method_3_code
def yX0_isAnyUnsettled : MethodName := ⟨RX0, "isAnyUnsettled", "()Z"⟩
abbrev cX0_howManyOn : ByteArray := prog_2_method_4_code
def yX0_howManyOn : MethodName := ⟨RX0, "howManyOn", "(I)I"⟩
def RX1 : String := "BundleLinks$Flows"
def TX1 : u_T := fun k => match k with
  | 0 => ("BundleLinks$Flows", "count", "I", false)
  | 1 => ("BundleLinks$Flows", "a", "I", false)
  | 2 => ("BundleLinks$Flows", "c", "I", false)
  | 3 => ("BundleLinks$Flows", "rate", "[I", true)
  | 4 => ("BundleLinks$Flows", "pinned", "[I", true)
  | 5 => ("BundleLinks$Flows", "sent", "[I", true)
  | 6 => ("BundleLinks$Flows", "cameOut", "[I", true)
  | 7 => ("BundleLinks$Flows", "lost", "[I", true)
  | 8 => ("BundleLinks$Flows", "latestOut", "[I", true)
  | _ => ("BundleLinks$Flows", "mixedUp", "[Z", true)
def tyX1 : Nat → FieldType := fun k => match k with
  | 0 => .int
  | 1 => .int
  | 2 => .int
  | 3 => .array .int
  | 4 => .array .int
  | 5 => .array .int
  | 6 => .array .int
  | 7 => .array .int
  | 8 => .array .int
  | _ => .array .boolean
abbrev wsX10 : List Cond := u_ws RX1 TX1 10
theorem nmX1 : ∀ a, a < 10 → ∀ b, b < 10 → a ≠ b → (TX1 a).2.1 ≠ (TX1 b).2.1 := by decide +kernel
theorem tyX1_ok : ∀ k, k < 10 → parseFieldDescriptor (TX1 k).2.2.1 = some (tyX1 k) := by decide +kernel
abbrev cX1_init : ByteArray := prog_3_method_1_code
def yX1_init : MethodName := ⟨RX1, "<init>", "()V"⟩
abbrev cX1_add : ByteArray := prog_3_method_2_code
def yX1_add : MethodName := ⟨RX1, "add", "(I)I"⟩
abbrev cX1_bucketOf : ByteArray := prog_3_method_3_code
def yX1_bucketOf : MethodName := ⟨RX1, "bucketOf", "(I)I"⟩
abbrev cX1_hasUnended : ByteArray := prog_3_method_4_code
def yX1_hasUnended : MethodName := ⟨RX1, "hasUnended", "(I)Z"⟩
abbrev cX1_rateOfBucket : ByteArray := prog_3_method_5_code
def yX1_rateOfBucket : MethodName := ⟨RX1, "rateOfBucket", "(I)I"⟩
abbrev cX1_noteOut : ByteArray := prog_3_method_6_code
def yX1_noteOut : MethodName := ⟨RX1, "noteOut", "(II)V"⟩
def RX2 : String := "BundleLinks$Letters"
def TX2 : u_T := fun k => match k with
  | 0 => ("BundleLinks$Letters", "count", "I", false)
  | 1 => ("BundleLinks$Letters", "flow", "[I", true)
  | 2 => ("BundleLinks$Letters", "place", "[I", true)
  | 3 => ("BundleLinks$Letters", "bucket", "[I", true)
  | 4 => ("BundleLinks$Letters", "state", "[I", true)
  | 5 => ("BundleLinks$Letters", "link", "[I", true)
  | 6 => ("BundleLinks$Letters", "sentAt", "[I", true)
  | 7 => ("BundleLinks$Letters", "leftAt", "[I", true)
  | 8 => ("BundleLinks$Letters", "arrivesAt", "[I", true)
  | 9 => ("BundleLinks$Letters", "endedAt", "[I", true)
  | 10 => ("BundleLinks$Letters", "inOrderOut", "[I", true)
  | _ => ("BundleLinks$Letters", "inState", "[I", true)
def tyX2 : Nat → FieldType := fun k => match k with
  | 0 => .int
  | 1 => .array .int
  | 2 => .array .int
  | 3 => .array .int
  | 4 => .array .int
  | 5 => .array .int
  | 6 => .array .int
  | 7 => .array .int
  | 8 => .array .int
  | 9 => .array .int
  | 10 => .array .int
  | _ => .array .int
abbrev wsX20 : List Cond := u_ws RX2 TX2 12
theorem nmX2 : ∀ a, a < 12 → ∀ b, b < 12 → a ≠ b → (TX2 a).2.1 ≠ (TX2 b).2.1 := by decide +kernel
theorem tyX2_ok : ∀ k, k < 12 → parseFieldDescriptor (TX2 k).2.2.1 = some (tyX2 k) := by decide +kernel
abbrev cX2_init : ByteArray := prog_4_method_1_code
def yX2_init : MethodName := ⟨RX2, "<init>", "()V"⟩
abbrev cX2_add : ByteArray := prog_4_method_2_code
def yX2_add : MethodName := ⟨RX2, "add", "(IIII)I"⟩
abbrev cX2_turn : ByteArray := prog_4_method_3_code
def yX2_turn : MethodName := ⟨RX2, "turn", "(II)V"⟩
abbrev cX2_hasUnended : ByteArray := prog_4_method_4_code
def yX2_hasUnended : MethodName := ⟨RX2, "hasUnended", "()Z"⟩
abbrev cX2_isAnyUnderway : ByteArray := prog_4_method_5_code
def yX2_isAnyUnderway : MethodName := ⟨RX2, "isAnyUnderway", "()Z"⟩
def RX3 : String := "BundleLinks$Links"
def TX3 : u_T := fun k => match k with
  | 0 => ("BundleLinks$Links", "count", "I", false)
  | 1 => ("BundleLinks$Links", "speed", "[I", true)
  | 2 => ("BundleLinks$Links", "delay", "[I", true)
  | 3 => ("BundleLinks$Links", "up", "[Z", true)
  | 4 => ("BundleLinks$Links", "row", "[[I", true)
  | 5 => ("BundleLinks$Links", "wayStart", "[I", true)
  | 6 => ("BundleLinks$Links", "queueStart", "[I", true)
  | 7 => ("BundleLinks$Links", "queueEnd", "[I", true)
  | _ => ("BundleLinks$Links", "leftEver", "[I", true)
def tyX3 : Nat → FieldType := fun k => match k with
  | 0 => .int
  | 1 => .array .int
  | 2 => .array .int
  | 3 => .array .boolean
  | 4 => .array (.array .int)
  | 5 => .array .int
  | 6 => .array .int
  | 7 => .array .int
  | _ => .array .int
abbrev wsX30 : List Cond := u_ws RX3 TX3 9
theorem nmX3 : ∀ a, a < 9 → ∀ b, b < 9 → a ≠ b → (TX3 a).2.1 ≠ (TX3 b).2.1 := by decide +kernel
theorem tyX3_ok : ∀ k, k < 9 → parseFieldDescriptor (TX3 k).2.2.1 = some (tyX3 k) := by decide +kernel
abbrev cX3_init : ByteArray := prog_5_method_1_code
def yX3_init : MethodName := ⟨RX3, "<init>", "()V"⟩
abbrev cX3_add : ByteArray := prog_5_method_2_code
def yX3_add : MethodName := ⟨RX3, "add", "(II)I"⟩
abbrev cX3_isAnyUp : ByteArray := prog_5_method_3_code
def yX3_isAnyUp : MethodName := ⟨RX3, "isAnyUp", "()Z"⟩
def RX4 : String := "BundleLinks$Planner"
def TX4 : u_T := fun k => match k with
  | 0 => ("BundleLinks$Planner", "hasPlan", "Z", false)
  | 1 => ("BundleLinks$Planner", "latest", "[I", true)
  | 2 => ("BundleLinks$Planner", "links", "LBundleLinks$Links;", true)
  | 3 => ("BundleLinks$Planner", "buckets", "LBundleLinks$Buckets;", true)
  | 4 => ("BundleLinks$Planner", "flows", "LBundleLinks$Flows;", true)
  | 5 => ("BundleLinks$Planner", "weight", "[I", true)
  | 6 => ("BundleLinks$Planner", "load", "[I", true)
  | 7 => ("BundleLinks$Planner", "trial", "[I", true)
  | 8 => ("BundleLinks$Planner", "allSpeeds", "I", false)
  | 9 => ("BundleLinks$Planner", "allLoads", "I", false)
  | 10 => ("BundleLinks$Planner", "evenness", "I", false)
  | _ => ("BundleLinks$Planner", "fewest", "I", false)
def tyX4 : Nat → FieldType := fun k => match k with
  | 0 => .boolean
  | 1 => .array .int
  | 2 => .object "BundleLinks$Links"
  | 3 => .object "BundleLinks$Buckets"
  | 4 => .object "BundleLinks$Flows"
  | 5 => .array .int
  | 6 => .array .int
  | 7 => .array .int
  | 8 => .int
  | 9 => .int
  | 10 => .int
  | _ => .int
abbrev wsX40 : List Cond := u_ws RX4 TX4 12
theorem nmX4 : ∀ a, a < 12 → ∀ b, b < 12 → a ≠ b → (TX4 a).2.1 ≠ (TX4 b).2.1 := by decide +kernel
theorem tyX4_ok : ∀ k, k < 12 → parseFieldDescriptor (TX4 k).2.2.1 = some (tyX4 k) := by decide +kernel
abbrev cX4_init : ByteArray := prog_6_method_1_code
def yX4_init : MethodName := ⟨RX4, "<init>", "(LBundleLinks$Links;LBundleLinks$Buckets;LBundleLinks$Flows;)V"⟩
abbrev cX4_loadOf : ByteArray := prog_6_method_2_code
def yX4_loadOf : MethodName := ⟨RX4, "loadOf", "(I)I"⟩
abbrev cX4_isEven : ByteArray := prog_6_method_3_code
def yX4_isEven : MethodName := ⟨RX4, "isEven", "(I)Z"⟩
abbrev cX4_measure : ByteArray := prog_6_method_4_code
def yX4_measure : MethodName := ⟨RX4, "measure", "(I)V"⟩
abbrev cX4_isWithinShare : ByteArray := prog_6_method_5_code
def yX4_isWithinShare : MethodName := ⟨RX4, "isWithinShare", "(II)Z"⟩
abbrev cX4_fewestMoves : ByteArray := prog_6_method_6_code
def yX4_fewestMoves : MethodName := ⟨RX4, "fewestMoves", "(I)I"⟩
abbrev cX4_place : ByteArray := prog_6_method_7_code
def yX4_place : MethodName := ⟨RX4, "place", "(II)V"⟩
abbrev cX4_placeOn : ByteArray := prog_6_method_8_code
def yX4_placeOn : MethodName := ⟨RX4, "placeOn", "(III)V"⟩
abbrev cX4_keep : ByteArray := prog_6_method_9_code
def yX4_keep : MethodName := ⟨RX4, "keep", "(I)V"⟩
def RX5 : String := "BundleLinks$Traffic"
def TX5 : u_T := fun k => match k with
  | 0 => ("BundleLinks$Traffic", "time", "I", false)
  | 1 => ("BundleLinks$Traffic", "numbersOn", "Z", false)
  | 2 => ("BundleLinks$Traffic", "links", "LBundleLinks$Links;", true)
  | 3 => ("BundleLinks$Traffic", "buckets", "LBundleLinks$Buckets;", true)
  | 4 => ("BundleLinks$Traffic", "flows", "LBundleLinks$Flows;", true)
  | 5 => ("BundleLinks$Traffic", "letters", "LBundleLinks$Letters;", true)
  | _ => ("BundleLinks$Traffic", "blocked", "[Z", true)
def tyX5 : Nat → FieldType := fun k => match k with
  | 0 => .int
  | 1 => .boolean
  | 2 => .object "BundleLinks$Links"
  | 3 => .object "BundleLinks$Buckets"
  | 4 => .object "BundleLinks$Flows"
  | 5 => .object "BundleLinks$Letters"
  | _ => .array .boolean
abbrev wsX50 : List Cond := u_ws RX5 TX5 7
theorem nmX5 : ∀ a, a < 7 → ∀ b, b < 7 → a ≠ b → (TX5 a).2.1 ≠ (TX5 b).2.1 := by decide +kernel
theorem tyX5_ok : ∀ k, k < 7 → parseFieldDescriptor (TX5 k).2.2.1 = some (tyX5 k) := by decide +kernel
abbrev cX5_init : ByteArray := prog_7_method_1_code
def yX5_init : MethodName := ⟨RX5, "<init>", "(LBundleLinks$Links;LBundleLinks$Buckets;LBundleLinks$Flows;LBundleLinks$Letters;)V"⟩
abbrev cX5_post : ByteArray := prog_7_method_2_code
def yX5_post : MethodName := ⟨RX5, "post", "(I)V"⟩
abbrev cX5_enqueue : ByteArray := prog_7_method_3_code
def yX5_enqueue : MethodName := ⟨RX5, "enqueue", "(II)V"⟩
abbrev cX5_isBusy : ByteArray := prog_7_method_4_code
def yX5_isBusy : MethodName := ⟨RX5, "isBusy", "()Z"⟩
abbrev cX5_passTick : ByteArray := prog_7_method_5_code
def yX5_passTick : MethodName := ⟨RX5, "passTick", "()V"⟩
abbrev cX5_leave : ByteArray := prog_7_method_6_code
def yX5_leave : MethodName := ⟨RX5, "leave", "(I)V"⟩
abbrev cX5_arrive : ByteArray := prog_7_method_7_code
def yX5_arrive : MethodName := ⟨RX5, "arrive", "(I)V"⟩
abbrev cX5_letOutInOrder : ByteArray := prog_7_method_8_code
def yX5_letOutInOrder : MethodName := ⟨RX5, "letOutInOrder", "()V"⟩
abbrev cX5_letOut : ByteArray := prog_7_method_9_code
def yX5_letOut : MethodName := ⟨RX5, "letOut", "(I)V"⟩
abbrev cX5_startMove : ByteArray := prog_7_method_10_code
def yX5_startMove : MethodName := ⟨RX5, "startMove", "(III)Z"⟩
abbrev cX5_settle : ByteArray := prog_7_method_11_code
def yX5_settle : MethodName := ⟨RX5, "settle", "(I)V"⟩
abbrev cX5_mayReach : ByteArray := prog_7_method_12_code
def yX5_mayReach : MethodName := ⟨RX5, "mayReach", "(II)Z"⟩
abbrev cX5_reach : ByteArray := prog_7_method_13_code
def yX5_reach : MethodName := ⟨RX5, "reach", "(II)V"⟩
abbrev cX5_release : ByteArray := prog_7_method_14_code
def yX5_release : MethodName := ⟨RX5, "release", "(I)I"⟩
abbrev cX5_cancelMove : ByteArray := prog_7_method_15_code
def yX5_cancelMove : MethodName := ⟨RX5, "cancelMove", "(I)I"⟩
abbrev cX5_breakLink : ByteArray := prog_7_method_16_code
def yX5_breakLink : MethodName := ⟨RX5, "breakLink", "(I)I"⟩
abbrev cX5_loseLetters : ByteArray := prog_7_method_17_code
def yX5_loseLetters : MethodName := ⟨RX5, "loseLetters", "(I)I"⟩
abbrev cX5_upLinkWithFewestBuckets : ByteArray := prog_7_method_18_code
def yX5_upLinkWithFewestBuckets : MethodName := ⟨RX5, "upLinkWithFewestBuckets", "()I"⟩
abbrev cX5_takeIn : ByteArray := prog_7_method_19_code
def yX5_takeIn : MethodName := ⟨RX5, "takeIn", "(I)I"⟩
def RX6 : String := "BundleLinks"
def TX6 : u_T := fun k => match k with
  | 0 => ("BundleLinks", "links", "LBundleLinks$Links;", true)
  | 1 => ("BundleLinks", "buckets", "LBundleLinks$Buckets;", true)
  | 2 => ("BundleLinks", "flows", "LBundleLinks$Flows;", true)
  | 3 => ("BundleLinks", "letters", "LBundleLinks$Letters;", true)
  | 4 => ("BundleLinks", "traffic", "LBundleLinks$Traffic;", true)
  | _ => ("BundleLinks", "planner", "LBundleLinks$Planner;", true)
def tyX6 : Nat → FieldType := fun k => match k with
  | 0 => .object "BundleLinks$Links"
  | 1 => .object "BundleLinks$Buckets"
  | 2 => .object "BundleLinks$Flows"
  | 3 => .object "BundleLinks$Letters"
  | 4 => .object "BundleLinks$Traffic"
  | _ => .object "BundleLinks$Planner"
abbrev wsX60 : List Cond := u_ws RX6 TX6 6
theorem nmX6 : ∀ a, a < 6 → ∀ b, b < 6 → a ≠ b → (TX6 a).2.1 ≠ (TX6 b).2.1 := by decide +kernel
theorem tyX6_ok : ∀ k, k < 6 → parseFieldDescriptor (TX6 k).2.2.1 = some (tyX6 k) := by decide +kernel
abbrev cX6_init : ByteArray := prog_1_method_1_code
def yX6_init : MethodName := ⟨RX6, "<init>", "()V"⟩
abbrev cX6_link : ByteArray := prog_1_method_2_code
def yX6_link : MethodName := ⟨RX6, "link", "(II)I"⟩
abbrev cX6_flow : ByteArray := prog_1_method_3_code
def yX6_flow : MethodName := ⟨RX6, "flow", "(I)I"⟩
abbrev cX6_rate : ByteArray := prog_1_method_4_code
def yX6_rate : MethodName := ⟨RX6, "rate", "(II)I"⟩
abbrev cX6_pin : ByteArray := prog_1_method_5_code
def yX6_pin : MethodName := ⟨RX6, "pin", "(II)I"⟩
abbrev cX6_hash : ByteArray := prog_1_method_6_code
def yX6_hash : MethodName := ⟨RX6, "hash", "(II)I"⟩
abbrev cX6_numbers : ByteArray := prog_1_method_7_code
def yX6_numbers : MethodName := ⟨RX6, "numbers", "(Z)I"⟩
abbrev cX6_send : ByteArray := prog_1_method_8_code
def yX6_send : MethodName := ⟨RX6, "send", "(II)I"⟩
abbrev cX6_tick : ByteArray := prog_1_method_9_code
def yX6_tick : MethodName := ⟨RX6, "tick", "(I)I"⟩
abbrev cX6_move : ByteArray := prog_1_method_10_code
def yX6_move : MethodName := ⟨RX6, "move", "(III)I"⟩
abbrev cX6_drop : ByteArray := prog_1_method_11_code
def yX6_drop : MethodName := ⟨RX6, "drop", "(I)I"⟩
abbrev cX6_fail : ByteArray := prog_1_method_12_code
def yX6_fail : MethodName := ⟨RX6, "fail", "(I)I"⟩
abbrev cX6_back : ByteArray := prog_1_method_13_code
def yX6_back : MethodName := ⟨RX6, "back", "(I)I"⟩
abbrev cX6_letter : ByteArray := prog_1_method_14_code
def yX6_letter : MethodName := ⟨RX6, "letter", "(II)I"⟩
abbrev cX6_about : ByteArray := prog_1_method_15_code
def yX6_about : MethodName := ⟨RX6, "about", "(II)I"⟩
abbrev cX6_bucket : ByteArray := prog_1_method_16_code
def yX6_bucket : MethodName := ⟨RX6, "bucket", "(II)I"⟩
abbrev cX6_ofFlow : ByteArray := prog_1_method_17_code
def yX6_ofFlow : MethodName := ⟨RX6, "ofFlow", "(II)I"⟩
abbrev cX6_out : ByteArray := prog_1_method_18_code
def yX6_out : MethodName := ⟨RX6, "out", "(I)I"⟩
abbrev cX6_ordered : ByteArray := prog_1_method_19_code
def yX6_ordered : MethodName := ⟨RX6, "ordered", "(I)I"⟩
abbrev cX6_told : ByteArray := prog_1_method_20_code
def yX6_told : MethodName := ⟨RX6, "told", "(I)I"⟩
abbrev cX6_even : ByteArray := prog_1_method_21_code
def yX6_even : MethodName := ⟨RX6, "even", "(I)I"⟩
abbrev cX6_least : ByteArray := prog_1_method_22_code
def yX6_least : MethodName := ⟨RX6, "least", "(I)I"⟩
abbrev cX6_plan : ByteArray := prog_1_method_23_code
def yX6_plan : MethodName := ⟨RX6, "plan", "(I)I"⟩
abbrev cX6_isWithin : ByteArray := prog_1_method_24_code
def yX6_isWithin : MethodName := ⟨RX6, "isWithin", "(III)Z"⟩
abbrev cX6_isBelow : ByteArray := prog_1_method_25_code
def yX6_isBelow : MethodName := ⟨RX6, "isBelow", "(II)Z"⟩
abbrev cX6_oneIf : ByteArray := prog_1_method_26_code
def yX6_oneIf : MethodName := ⟨RX6, "oneIf", "(Z)I"⟩
def RX7 : String := "BundleLinksModel"
def TX7 : u_T := fun k => match k with
  | 0 => ("BundleLinksModel", "time", "I", false)
  | 1 => ("BundleLinksModel", "links", "I", false)
  | 2 => ("BundleLinksModel", "speed", "[I", true)
  | 3 => ("BundleLinksModel", "delay", "[I", true)
  | 4 => ("BundleLinksModel", "isUp", "[Z", true)
  | 5 => ("BundleLinksModel", "leftBy", "[I", true)
  | 6 => ("BundleLinksModel", "on", "[I", true)
  | 7 => ("BundleLinksModel", "to", "[I", true)
  | 8 => ("BundleLinksModel", "holds", "[Z", true)
  | 9 => ("BundleLinksModel", "moves", "[I", true)
  | 10 => ("BundleLinksModel", "flows", "I", false)
  | 11 => ("BundleLinksModel", "rate", "[I", true)
  | 12 => ("BundleLinksModel", "pinned", "[I", true)
  | 13 => ("BundleLinksModel", "times", "I", false)
  | 14 => ("BundleLinksModel", "plus", "I", false)
  | 15 => ("BundleLinksModel", "numbers", "Z", false)
  | 16 => ("BundleLinksModel", "letters", "I", false)
  | 17 => ("BundleLinksModel", "flowOf", "[I", true)
  | 18 => ("BundleLinksModel", "place", "[I", true)
  | 19 => ("BundleLinksModel", "bucketOf", "[I", true)
  | 20 => ("BundleLinksModel", "state", "[I", true)
  | 21 => ("BundleLinksModel", "linkOf", "[I", true)
  | 22 => ("BundleLinksModel", "sent", "[I", true)
  | 23 => ("BundleLinksModel", "left", "[I", true)
  | 24 => ("BundleLinksModel", "arrives", "[I", true)
  | 25 => ("BundleLinksModel", "done", "[I", true)
  | 26 => ("BundleLinksModel", "queueStamp", "[I", true)
  | 27 => ("BundleLinksModel", "leaveStamp", "[I", true)
  | 28 => ("BundleLinksModel", "stamp", "I", false)
  | 29 => ("BundleLinksModel", "outs", "I", false)
  | 30 => ("BundleLinksModel", "out", "[I", true)
  | 31 => ("BundleLinksModel", "hasPlan", "Z", false)
  | 32 => ("BundleLinksModel", "plan", "[I", true)
  | 33 => ("BundleLinksModel", "loads", "[I", true)
  | 34 => ("BundleLinksModel", "share", "[I", true)
  | _ => ("BundleLinksModel", "trial", "[I", true)
def tyX7 : Nat → FieldType := fun k => match k with
  | 0 => .int
  | 1 => .int
  | 2 => .array .int
  | 3 => .array .int
  | 4 => .array .boolean
  | 5 => .array .int
  | 6 => .array .int
  | 7 => .array .int
  | 8 => .array .boolean
  | 9 => .array .int
  | 10 => .int
  | 11 => .array .int
  | 12 => .array .int
  | 13 => .int
  | 14 => .int
  | 15 => .boolean
  | 16 => .int
  | 17 => .array .int
  | 18 => .array .int
  | 19 => .array .int
  | 20 => .array .int
  | 21 => .array .int
  | 22 => .array .int
  | 23 => .array .int
  | 24 => .array .int
  | 25 => .array .int
  | 26 => .array .int
  | 27 => .array .int
  | 28 => .int
  | 29 => .int
  | 30 => .array .int
  | 31 => .boolean
  | 32 => .array .int
  | 33 => .array .int
  | 34 => .array .int
  | _ => .array .int
abbrev wsX70 : List Cond := u_ws RX7 TX7 36
theorem nmX7 : ∀ a, a < 36 → ∀ b, b < 36 → a ≠ b → (TX7 a).2.1 ≠ (TX7 b).2.1 := by decide +kernel
theorem tyX7_ok : ∀ k, k < 36 → parseFieldDescriptor (TX7 k).2.2.1 = some (tyX7 k) := by decide +kernel
abbrev cX7_init : ByteArray := prog_9_method_1_code
def yX7_init : MethodName := ⟨RX7, "<init>", "()V"⟩
abbrev cX7_in : ByteArray := prog_9_method_2_code
def yX7_in : MethodName := ⟨RX7, "in", "(III)Z"⟩
abbrev cX7_isLink : ByteArray := prog_9_method_3_code
def yX7_isLink : MethodName := ⟨RX7, "isLink", "(I)Z"⟩
abbrev cX7_isFlow : ByteArray := prog_9_method_4_code
def yX7_isFlow : MethodName := ⟨RX7, "isFlow", "(I)Z"⟩
abbrev cX7_link : ByteArray := prog_9_method_5_code
def yX7_link : MethodName := ⟨RX7, "link", "(II)I"⟩
abbrev cX7_takes : ByteArray := prog_9_method_6_code
def yX7_takes : MethodName := ⟨RX7, "takes", "(I)I"⟩
abbrev cX7_lets : ByteArray := prog_9_method_7_code
def yX7_lets : MethodName := ⟨RX7, "lets", "(I)I"⟩
abbrev cX7_queue : ByteArray := prog_9_method_8_code
def yX7_queue : MethodName := ⟨RX7, "queue", "(II)V"⟩
abbrev cX7_flow : ByteArray := prog_9_method_9_code
def yX7_flow : MethodName := ⟨RX7, "flow", "(I)I"⟩
abbrev cX7_rate : ByteArray := prog_9_method_10_code
def yX7_rate : MethodName := ⟨RX7, "rate", "(II)I"⟩
abbrev cX7_bucketNow : ByteArray := prog_9_method_11_code
def yX7_bucketNow : MethodName := ⟨RX7, "bucketNow", "(I)I"⟩
abbrev cX7_hasOpen : ByteArray := prog_9_method_12_code
def yX7_hasOpen : MethodName := ⟨RX7, "hasOpen", "(I)Z"⟩
abbrev cX7_pin : ByteArray := prog_9_method_13_code
def yX7_pin : MethodName := ⟨RX7, "pin", "(II)I"⟩
abbrev cX7_hash : ByteArray := prog_9_method_14_code
def yX7_hash : MethodName := ⟨RX7, "hash", "(II)I"⟩
abbrev cX7_numbers : ByteArray := prog_9_method_15_code
def yX7_numbers : MethodName := ⟨RX7, "numbers", "(Z)I"⟩
abbrev cX7_held : ByteArray := prog_9_method_16_code
def yX7_held : MethodName := ⟨RX7, "held", "(I)I"⟩
abbrev cX7_ofFlowIn : ByteArray := prog_9_method_17_code
def yX7_ofFlowIn : MethodName := ⟨RX7, "ofFlowIn", "(II)I"⟩
abbrev cX7_send : ByteArray := prog_9_method_18_code
def yX7_send : MethodName := ⟨RX7, "send", "(II)I"⟩
abbrev cX7_firstQueued : ByteArray := prog_9_method_19_code
def yX7_firstQueued : MethodName := ⟨RX7, "firstQueued", "(I)I"⟩
abbrev cX7_firstArriving : ByteArray := prog_9_method_20_code
def yX7_firstArriving : MethodName := ⟨RX7, "firstArriving", "(I)I"⟩
abbrev cX7_comesOut : ByteArray := prog_9_method_21_code
def yX7_comesOut : MethodName := ⟨RX7, "comesOut", "(I)V"⟩
abbrev cX7_isNext : ByteArray := prog_9_method_22_code
def yX7_isNext : MethodName := ⟨RX7, "isNext", "(I)Z"⟩
abbrev cX7_tick1 : ByteArray := prog_9_method_23_code
def yX7_tick1 : MethodName := ⟨RX7, "tick1", "()V"⟩
abbrev cX7_tick : ByteArray := prog_9_method_24_code
def yX7_tick : MethodName := ⟨RX7, "tick", "(I)I"⟩
abbrev cX7_canCome : ByteArray := prog_9_method_25_code
def yX7_canCome : MethodName := ⟨RX7, "canCome", "(II)Z"⟩
abbrev cX7_settle : ByteArray := prog_9_method_26_code
def yX7_settle : MethodName := ⟨RX7, "settle", "(I)I"⟩
abbrev cX7_isBucket : ByteArray := prog_9_method_27_code
def yX7_isBucket : MethodName := ⟨RX7, "isBucket", "(I)Z"⟩
abbrev cX7_move : ByteArray := prog_9_method_28_code
def yX7_move : MethodName := ⟨RX7, "move", "(III)I"⟩
abbrev cX7_drop : ByteArray := prog_9_method_29_code
def yX7_drop : MethodName := ⟨RX7, "drop", "(I)I"⟩
abbrev cX7_bucketsOn : ByteArray := prog_9_method_30_code
def yX7_bucketsOn : MethodName := ⟨RX7, "bucketsOn", "(I)I"⟩
abbrev cX7_fail : ByteArray := prog_9_method_31_code
def yX7_fail : MethodName := ⟨RX7, "fail", "(I)I"⟩
abbrev cX7_back : ByteArray := prog_9_method_32_code
def yX7_back : MethodName := ⟨RX7, "back", "(I)I"⟩
abbrev cX7_letter : ByteArray := prog_9_method_33_code
def yX7_letter : MethodName := ⟨RX7, "letter", "(II)I"⟩
abbrev cX7_inState : ByteArray := prog_9_method_34_code
def yX7_inState : MethodName := ⟨RX7, "inState", "(II)I"⟩
abbrev cX7_rates : ByteArray := prog_9_method_35_code
def yX7_rates : MethodName := ⟨RX7, "rates", "(I)I"⟩
abbrev cX7_load : ByteArray := prog_9_method_36_code
def yX7_load : MethodName := ⟨RX7, "load", "(I)I"⟩
abbrev cX7_about : ByteArray := prog_9_method_37_code
def yX7_about : MethodName := ⟨RX7, "about", "(II)I"⟩
abbrev cX7_bucket : ByteArray := prog_9_method_38_code
def yX7_bucket : MethodName := ⟨RX7, "bucket", "(II)I"⟩
abbrev cX7_ofFlow : ByteArray := prog_9_method_39_code
def yX7_ofFlow : MethodName := ⟨RX7, "ofFlow", "(II)I"⟩
abbrev cX7_out : ByteArray := prog_9_method_40_code
def yX7_out : MethodName := ⟨RX7, "out", "(I)I"⟩
abbrev cX7_ordered : ByteArray := prog_9_method_41_code
def yX7_ordered : MethodName := ⟨RX7, "ordered", "(I)I"⟩
abbrev cX7_told : ByteArray := prog_9_method_42_code
def yX7_told : MethodName := ⟨RX7, "told", "(I)I"⟩
abbrev cX7_noneUp : ByteArray := prog_9_method_43_code
def yX7_noneUp : MethodName := ⟨RX7, "noneUp", "()Z"⟩
abbrev cX7_isEven : ByteArray := prog_9_method_44_code
def yX7_isEven : MethodName := ⟨RX7, "isEven", "(I)Z"⟩
abbrev cX7_even : ByteArray := prog_9_method_45_code
def yX7_even : MethodName := ⟨RX7, "even", "(I)I"⟩
abbrev cX7_nextUp : ByteArray := prog_9_method_46_code
def yX7_nextUp : MethodName := ⟨RX7, "nextUp", "(I)I"⟩
abbrev cX7_turns : ByteArray := prog_9_method_47_code
def yX7_turns : MethodName := ⟨RX7, "turns", "()Z"⟩
abbrev cX7_least : ByteArray := prog_9_method_48_code
def yX7_least : MethodName := ⟨RX7, "least", "(I)I"⟩
abbrev cX7_plan : ByteArray := prog_9_method_49_code
def yX7_plan : MethodName := ⟨RX7, "plan", "(I)I"⟩
def RJ9 : String := "java/lang/Math"
def TJ9 : u_T := fun k => match k with
  | _ => ("", "", "", false)
def tyJ9 : Nat → FieldType := fun k => match k with
  | _ => .int
abbrev wsJ90 : List Cond := u_ws RJ9 TJ9 0
theorem nmJ9 : ∀ a, a < 0 → ∀ b, b < 0 → a ≠ b → (TJ9 a).2.1 ≠ (TJ9 b).2.1 := by decide +kernel
theorem tyJ9_ok : ∀ k, k < 0 → parseFieldDescriptor (TJ9 k).2.2.1 = some (tyJ9 k) := by decide +kernel
abbrev cJ9_min_7cf53 : ByteArray := prog_10_method_69_code
def yJ9_min_7cf53 : MethodName := ⟨RJ9, "min", "(II)I"⟩
def RJ10 : String := "java/lang/System"
def TJ10 : u_T := fun k => match k with
  | _ => ("", "", "", false)
def tyJ10 : Nat → FieldType := fun k => match k with
  | _ => .int
abbrev wsJ100 : List Cond := u_ws RJ10 TJ10 0
theorem nmJ10 : ∀ a, a < 0 → ∀ b, b < 0 → a ≠ b → (TJ10 a).2.1 ≠ (TJ10 b).2.1 := by decide +kernel
theorem tyJ10_ok : ∀ k, k < 0 → parseFieldDescriptor (TJ10 k).2.2.1 = some (tyJ10 k) := by decide +kernel
def RL : String := "BundleLinksLaw"
abbrev cL_law : ByteArray := code
def yL_law : MethodName := ⟨RL, "law", "([I)Z"⟩
abbrev vwCl : List vw_C := [(RX0, TX0, 5), (RX1, TX1, 10), (RX2, TX2, 12), (RX3, TX3, 9), (RX4, TX4, 12), (RX5, TX5, 7), (RX6, TX6, 6), (RX7, TX7, 36)]
