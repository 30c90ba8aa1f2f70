/-! The machine does what ps and pb say. -/
theorem row_of {mt : Mt} (h : mtOk mt) {pc nx tg : Nat} {ins : Instr} (hl : lk pc mt.2.2.2.2.2 = some (nx, tg, ins)) : decode mt.2.1 pc = .ok (ins, iln pc nx ins) ∧ nx = pc + iln pc nx ins ∧ jmp pc tg ins = true := by
  have h1 : rowOk mt.2.1 (pc, nx, tg, ins) := h.2.1 (pc, nx, tg, ins) (lk_mem hl)
  unfold rowOk at h1
  exact h1
section GS
variable {mt : Mt} {d : Nat} {P : PV → Mem → Prop} {pc nx tg : Nat} {lv st rest : List PV} {M : Mem}
theorem gV_iload_n {k : Fin 4} {x : Int} (hl : lk pc mt.2.2.2.2.2 = some (nx, tg, .iload_n k)) (hn : nth lv k = vI x) (kk : gV mt d P nx lv (vI x :: st) M) : gV mt d P pc lv st M := by
  intro p l e R s m args below meth c cells slots Q D ad A H0 cs C H locs ls hP hS hL
  have C' := C
  obtain ⟨c1, c2, c3, c4, c5, c6, c7, c8, c9, c10⟩ := C
  obtain ⟨r1, r2, r3⟩ := row_of c9 hl
  dsimp only [iln] at r1 r2
  subst r2
  exact lv_iload_n c1 c2 r1 rfl (gL_int hL hn) (kk p l e R s m args below meth c cells slots Q D ad A H0 cs C' H locs ls hP hS hL)
theorem gV_iload {k : Nat} {x : Int} (hl : lk pc mt.2.2.2.2.2 = some (nx, tg, .iload k)) (hn : nth lv k = vI x) (kk : gV mt d P nx lv (vI x :: st) M) : gV mt d P pc lv st M := by
  intro p l e R s m args below meth c cells slots Q D ad A H0 cs C H locs ls hP hS hL
  have C' := C
  obtain ⟨c1, c2, c3, c4, c5, c6, c7, c8, c9, c10⟩ := C
  obtain ⟨r1, r2, r3⟩ := row_of c9 hl
  dsimp only [iln] at r1 r2
  subst r2
  exact lv_iload c1 c2 r1 (gL_int hL hn) (kk p l e R s m args below meth c cells slots Q D ad A H0 cs C' H locs ls hP hS hL)
theorem gV_aload_n {k : Fin 4} {r : Nat} (hl : lk pc mt.2.2.2.2.2 = some (nx, tg, .aload_n k)) (hn : nth lv k = vR r) (kk : gV mt d P nx lv (vR r :: st) M) : gV mt d P pc lv st M := by
  intro p l e R s m args below meth c cells slots Q D ad A H0 cs C H locs ls hP hS hL
  have C' := C
  obtain ⟨c1, c2, c3, c4, c5, c6, c7, c8, c9, c10⟩ := C
  obtain ⟨r1, r2, r3⟩ := row_of c9 hl
  dsimp only [iln] at r1 r2
  subst r2
  exact lv_aload_n c1 c2 r1 rfl (gL_ref hL hn) (kk p l e R s m args below meth c cells slots Q D ad A H0 cs C' H locs ls hP hS hL)
theorem gV_aload {k : Nat} {r : Nat} (hl : lk pc mt.2.2.2.2.2 = some (nx, tg, .aload k)) (hn : nth lv k = vR r) (kk : gV mt d P nx lv (vR r :: st) M) : gV mt d P pc lv st M := by
  intro p l e R s m args below meth c cells slots Q D ad A H0 cs C H locs ls hP hS hL
  have C' := C
  obtain ⟨c1, c2, c3, c4, c5, c6, c7, c8, c9, c10⟩ := C
  obtain ⟨r1, r2, r3⟩ := row_of c9 hl
  dsimp only [iln] at r1 r2
  subst r2
  exact lv_aload c1 c2 r1 (gL_ref hL hn) (kk p l e R s m args below meth c cells slots Q D ad A H0 cs C' H locs ls hP hS hL)
theorem gV_iconst {n : Int} (hl : lk pc mt.2.2.2.2.2 = some (nx, tg, .iconst n)) (kk : gV mt d P nx lv (vI n :: st) M) : gV mt d P pc lv st M := by
  intro p l e R s m args below meth c cells slots Q D ad A H0 cs C H locs ls hP hS hL
  have C' := C
  obtain ⟨c1, c2, c3, c4, c5, c6, c7, c8, c9, c10⟩ := C
  obtain ⟨r1, r2, r3⟩ := row_of c9 hl
  dsimp only [iln] at r1 r2
  subst r2
  exact lv_iconst c1 c2 r1 rfl (kk p l e R s m args below meth c cells slots Q D ad A H0 cs C' H locs ls hP hS hL)
theorem gV_bipush {n : Int} (hl : lk pc mt.2.2.2.2.2 = some (nx, tg, .bipush n)) (kk : gV mt d P nx lv (vI n :: st) M) : gV mt d P pc lv st M := by
  intro p l e R s m args below meth c cells slots Q D ad A H0 cs C H locs ls hP hS hL
  have C' := C
  obtain ⟨c1, c2, c3, c4, c5, c6, c7, c8, c9, c10⟩ := C
  obtain ⟨r1, r2, r3⟩ := row_of c9 hl
  dsimp only [iln] at r1 r2
  subst r2
  exact lv_bipush c1 c2 r1 (of_decide_eq_true r3) (kk p l e R s m args below meth c cells slots Q D ad A H0 cs C' H locs ls hP hS hL)
theorem gV_sipush {n : Int} (hl : lk pc mt.2.2.2.2.2 = some (nx, tg, .sipush n)) (kk : gV mt d P nx lv (vI n :: st) M) : gV mt d P pc lv st M := by
  intro p l e R s m args below meth c cells slots Q D ad A H0 cs C H locs ls hP hS hL
  have C' := C
  obtain ⟨c1, c2, c3, c4, c5, c6, c7, c8, c9, c10⟩ := C
  obtain ⟨r1, r2, r3⟩ := row_of c9 hl
  dsimp only [iln] at r1 r2
  subst r2
  exact lv_sipush c1 c2 r1 (of_decide_eq_true r3) (kk p l e R s m args below meth c cells slots Q D ad A H0 cs C' H locs ls hP hS hL)
theorem gV_istore_n {k : Fin 4} {x : Int} (hl : lk pc mt.2.2.2.2.2 = some (nx, tg, .istore_n k)) (hk : (k : Nat) < lv.length) (kk : gV mt d P nx (lv.set k (vI x)) rest M) : gV mt d P pc lv (vI x :: rest) M := by
  intro p l e R s m args below meth c cells slots Q D ad A H0 cs C H locs ls hP hS hL
  have C' := C
  obtain ⟨c1, c2, c3, c4, c5, c6, c7, c8, c9, c10⟩ := C
  obtain ⟨r1, r2, r3⟩ := row_of c9 hl
  dsimp only [iln] at r1 r2
  subst r2
  exact lv_istore_n c1 c2 r1 rfl hL.2 (Nat.lt_of_lt_of_le hk hL.1) rfl (fun ls' h' => kk p l e R s m args below meth c cells slots Q D ad A H0 cs C' H locs ls' hP hS (gL_set hL hk h'))
theorem gV_istore {k : Nat} {x : Int} (hl : lk pc mt.2.2.2.2.2 = some (nx, tg, .istore k)) (hk : (k : Nat) < lv.length) (kk : gV mt d P nx (lv.set k (vI x)) rest M) : gV mt d P pc lv (vI x :: rest) M := by
  intro p l e R s m args below meth c cells slots Q D ad A H0 cs C H locs ls hP hS hL
  have C' := C
  obtain ⟨c1, c2, c3, c4, c5, c6, c7, c8, c9, c10⟩ := C
  obtain ⟨r1, r2, r3⟩ := row_of c9 hl
  dsimp only [iln] at r1 r2
  subst r2
  exact lv_istore c1 c2 r1 hL.2 (Nat.lt_of_lt_of_le hk hL.1) rfl (fun ls' h' => kk p l e R s m args below meth c cells slots Q D ad A H0 cs C' H locs ls' hP hS (gL_set hL hk h'))
theorem gV_iinc {k : Nat} {x n : Int} (hl : lk pc mt.2.2.2.2.2 = some (nx, tg, .iinc k n)) (hn : nth lv k = vI x) (hk : (k : Nat) < lv.length) (kk : gV mt d P nx (lv.set k (vI (x + n))) st M) : gV mt d P pc lv st M := by
  intro p l e R s m args below meth c cells slots Q D ad A H0 cs C H locs ls hP hS hL
  have C' := C
  obtain ⟨c1, c2, c3, c4, c5, c6, c7, c8, c9, c10⟩ := C
  obtain ⟨r1, r2, r3⟩ := row_of c9 hl
  dsimp only [iln] at r1 r2
  subst r2
  obtain ⟨j, hj⟩ := List.getElem?_of_mem (lal_mem (ad := ad).mpr (Or.inl ⟨x, nth_eq _ _ _ hn, rfl⟩))
  exact lv_iinc c1 c2 r1 hL.2 hj (Int32.ofInt_add x n).symm (Nat.lt_of_lt_of_le hk hL.1) rfl (fun ls' h' => kk p l e R s m args below meth c cells slots Q D ad A H0 cs C' H locs ls' hP hS (gL_set hL hk h'))
theorem gV_goto {o : Int} (hl : lk pc mt.2.2.2.2.2 = some (nx, tg, .goto o)) (kk : gV mt d P tg lv st M) : gV mt d P pc lv st M := by
  intro p l e R s m args below meth c cells slots Q D ad A H0 cs C H locs ls hP hS hL
  have C' := C
  obtain ⟨c1, c2, c3, c4, c5, c6, c7, c8, c9, c10⟩ := C
  obtain ⟨r1, r2, r3⟩ := row_of c9 hl
  exact lv_goto c1 c2 r1 (of_decide_eq_true r3) (kk p l e R s m args below meth c cells slots Q D ad A H0 cs C' H locs ls hP hS hL)
theorem cv_cat1 {ad : Nat → Nat} {v : PV} (h : ∀ x, v ≠ vL x) : (cv ad v).category = 1 := by
  rcases v with _ | x | r | x
  · rfl
  · rfl
  · rfl
  · exact absurd rfl (h x)
theorem gV_dup {v : PV} (hl : lk pc mt.2.2.2.2.2 = some (nx, tg, .dup)) (hv : ∀ x, v ≠ vL x) (kk : gV mt d P nx lv (v :: v :: rest) M) : gV mt d P pc lv (v :: rest) M := by
  intro p l e R s m args below meth c cells slots Q D ad A H0 cs C H locs ls hP hS hL
  have C' := C
  obtain ⟨c1, c2, c3, c4, c5, c6, c7, c8, c9, c10⟩ := C
  obtain ⟨r1, r2, r3⟩ := row_of c9 hl
  dsimp only [iln] at r1 r2
  subst r2
  exact lv_dup c1 c2 r1 (cv_cat1 hv) (kk p l e R s m args below meth c cells slots Q D ad A H0 cs C' H locs ls hP hS hL)
theorem gV_dup2 {v w : PV} (hl : lk pc mt.2.2.2.2.2 = some (nx, tg, .dup2)) (hv : ∀ x, v ≠ vL x) (hw : ∀ x, w ≠ vL x) (kk : gV mt d P nx lv (v :: w :: v :: w :: rest) M) : gV mt d P pc lv (v :: w :: rest) M := by
  intro p l e R s m args below meth c cells slots Q D ad A H0 cs C H locs ls hP hS hL
  have C' := C
  obtain ⟨c1, c2, c3, c4, c5, c6, c7, c8, c9, c10⟩ := C
  obtain ⟨r1, r2, r3⟩ := row_of c9 hl
  dsimp only [iln] at r1 r2
  subst r2
  exact lv_dup2_11 c1 c2 r1 (cv_cat1 hv) (cv_cat1 hw) (kk p l e R s m args below meth c cells slots Q D ad A H0 cs C' H locs ls hP hS hL)
theorem gV_pop {v : PV} (hl : lk pc mt.2.2.2.2.2 = some (nx, tg, .pop)) (hv : ∀ x, v ≠ vL x) (kk : gV mt d P nx lv rest M) : gV mt d P pc lv (v :: rest) M := by
  intro p l e R s m args below meth c cells slots Q D ad A H0 cs C H locs ls hP hS hL
  have C' := C
  obtain ⟨c1, c2, c3, c4, c5, c6, c7, c8, c9, c10⟩ := C
  obtain ⟨r1, r2, r3⟩ := row_of c9 hl
  dsimp only [iln] at r1 r2
  subst r2
  exact lv_pop c1 c2 r1 (cv_cat1 hv) (kk p l e R s m args below meth c cells slots Q D ad A H0 cs C' H locs ls hP hS hL)
theorem gV_iadd {x y : Int} (hl : lk pc mt.2.2.2.2.2 = some (nx, tg, .iadd)) (kk : gV mt d P nx lv (vI (x + y) :: rest) M) : gV mt d P pc lv (vI y :: vI x :: rest) M := by
  intro p l e R s m args below meth c cells slots Q D ad A H0 cs C H locs ls hP hS hL
  have C' := C
  obtain ⟨c1, c2, c3, c4, c5, c6, c7, c8, c9, c10⟩ := C
  obtain ⟨r1, r2, r3⟩ := row_of c9 hl
  dsimp only [iln] at r1 r2
  subst r2
  have k1 := kk p l e R s m args below meth c cells slots Q D ad A H0 cs C' H locs ls hP hS hL
  have e1 : cv ad (vI (x + y)) = .int (Int32.ofInt x + Int32.ofInt y) := by simp [cv, Int32.ofInt_add]
  simp only [List.map_cons, e1] at k1
  exact lv_iadd c1 c2 r1 k1
theorem gV_isub {x y : Int} (hl : lk pc mt.2.2.2.2.2 = some (nx, tg, .isub)) (kk : gV mt d P nx lv (vI (x - y) :: rest) M) : gV mt d P pc lv (vI y :: vI x :: rest) M := by
  intro p l e R s m args below meth c cells slots Q D ad A H0 cs C H locs ls hP hS hL
  have C' := C
  obtain ⟨c1, c2, c3, c4, c5, c6, c7, c8, c9, c10⟩ := C
  obtain ⟨r1, r2, r3⟩ := row_of c9 hl
  dsimp only [iln] at r1 r2
  subst r2
  have k1 := kk p l e R s m args below meth c cells slots Q D ad A H0 cs C' H locs ls hP hS hL
  have e1 : cv ad (vI (x - y)) = .int (Int32.ofInt x - Int32.ofInt y) := by simp [cv, Int32.ofInt_sub]
  simp only [List.map_cons, e1] at k1
  exact lv_isub c1 c2 r1 k1
theorem gV_imul {x y : Int} (hl : lk pc mt.2.2.2.2.2 = some (nx, tg, .imul)) (kk : gV mt d P nx lv (vI (x * y) :: rest) M) : gV mt d P pc lv (vI y :: vI x :: rest) M := by
  intro p l e R s m args below meth c cells slots Q D ad A H0 cs C H locs ls hP hS hL
  have C' := C
  obtain ⟨c1, c2, c3, c4, c5, c6, c7, c8, c9, c10⟩ := C
  obtain ⟨r1, r2, r3⟩ := row_of c9 hl
  dsimp only [iln] at r1 r2
  subst r2
  have k1 := kk p l e R s m args below meth c cells slots Q D ad A H0 cs C' H locs ls hP hS hL
  have e1 : cv ad (vI (x * y)) = .int (Int32.ofInt x * Int32.ofInt y) := by simp [cv, Int32.ofInt_mul]
  simp only [List.map_cons, e1] at k1
  exact lv_imul c1 c2 r1 k1
theorem i32_nI {x : Int} (h : 0 ≤ x) : Int32.ofInt x = nI x.toNat := by
  unfold nI
  rw [← Int32.ofInt_eq_ofNat, Int.toNat_of_nonneg h]
theorem gV_irem {x y : Int} (hl : lk pc mt.2.2.2.2.2 = some (nx, tg, .irem)) (hc : 0 ≤ x ∧ x ≤ 2147483647 ∧ 0 < y ∧ y ≤ 2147483647) (kk : gV mt d P nx lv (vI (x % y) :: rest) M) : gV mt d P pc lv (vI y :: vI x :: rest) M := by
  intro p l e R s m args below meth c cells slots Q D ad A H0 cs C H locs ls hP hS hL
  have C' := C
  obtain ⟨c1, c2, c3, c4, c5, c6, c7, c8, c9, c10⟩ := C
  obtain ⟨r1, r2, r3⟩ := row_of c9 hl
  dsimp only [iln] at r1 r2
  subst r2
  obtain ⟨h1, h2, h3, h4⟩ := hc
  have k1 := kk p l e R s m args below meth c cells slots Q D ad A H0 cs C' H locs ls hP hS hL
  have hne : ¬ Int32.ofInt y = 0 := fun q => by
    have := (i32_eq (x := y) (y := 0) ⟨by omega, by omega⟩ rng_0).mp q
    omega
  have e1 : cv ad (vI (x % y)) = .int (Int32.ofInt x - Int32.ofInt x / Int32.ofInt y * Int32.ofInt y) := by
    have hm : 0 ≤ x % y := Int.emod_nonneg x (by omega)
    simp only [cv]
    rw [i32_nI h1, i32_nI (x := y) (by omega), pk_rem (by omega) (by omega) (by omega), i32_nI hm]
    congr 2
    have : ((x.toNat % y.toNat : Nat) : Int) = x % y := by rw [Int.natCast_emod, Int.toNat_of_nonneg h1, Int.toNat_of_nonneg (by omega)]
    omega
  simp only [List.map_cons, e1] at k1
  exact lv_irem c1 c2 r1 hne k1
theorem gV_i2l {x : Int} (hl : lk pc mt.2.2.2.2.2 = some (nx, tg, .i2l)) (hx : rng x) (kk : gV mt d P nx lv (vL x :: rest) M) : gV mt d P pc lv (vI x :: rest) M := by
  intro p l e R s m args below meth c cells slots Q D ad A H0 cs C H locs ls hP hS hL
  have C' := C
  obtain ⟨c1, c2, c3, c4, c5, c6, c7, c8, c9, c10⟩ := C
  obtain ⟨r1, r2, r3⟩ := row_of c9 hl
  dsimp only [iln] at r1 r2
  subst r2
  refine lv_i2l c1 c2 r1 (v := Int64.ofInt x) ?_ (kk p l e R s m args below meth c cells slots Q D ad A H0 cs C' H locs ls hP hS hL)
  apply Int64.toInt_inj.mp
  rw [Int32.toInt_toInt64, i32_toInt hx, i64_toInt (by have := hx.1; omega) (by have := hx.2; omega)]
theorem gV_lmul {x y : Int} (hl : lk pc mt.2.2.2.2.2 = some (nx, tg, .lmul)) (kk : gV mt d P nx lv (vL (x * y) :: rest) M) : gV mt d P pc lv (vL y :: vL x :: rest) M := by
  intro p l e R s m args below meth c cells slots Q D ad A H0 cs C H locs ls hP hS hL
  have C' := C
  obtain ⟨c1, c2, c3, c4, c5, c6, c7, c8, c9, c10⟩ := C
  obtain ⟨r1, r2, r3⟩ := row_of c9 hl
  dsimp only [iln] at r1 r2
  subst r2
  have k1 := kk p l e R s m args below meth c cells slots Q D ad A H0 cs C' H locs ls hP hS hL
  have e1 : cv ad (vL (x * y)) = .long (Int64.ofInt x * Int64.ofInt y) := by simp [cv, Int64.ofInt_mul]
  simp only [List.map_cons, e1] at k1
  exact lv_lmul c1 c2 r1 k1
theorem gV_ladd {x y : Int} (hl : lk pc mt.2.2.2.2.2 = some (nx, tg, .ladd)) (kk : gV mt d P nx lv (vL (x + y) :: rest) M) : gV mt d P pc lv (vL y :: vL x :: rest) M := by
  intro p l e R s m args below meth c cells slots Q D ad A H0 cs C H locs ls hP hS hL
  have C' := C
  obtain ⟨c1, c2, c3, c4, c5, c6, c7, c8, c9, c10⟩ := C
  obtain ⟨r1, r2, r3⟩ := row_of c9 hl
  dsimp only [iln] at r1 r2
  subst r2
  have k1 := kk p l e R s m args below meth c cells slots Q D ad A H0 cs C' H locs ls hP hS hL
  have e1 : cv ad (vL (x + y)) = .long (Int64.ofInt x + Int64.ofInt y) := by simp [cv, Int64.ofInt_add]
  simp only [List.map_cons, e1] at k1
  exact lv_ladd c1 c2 r1 k1
end GS
