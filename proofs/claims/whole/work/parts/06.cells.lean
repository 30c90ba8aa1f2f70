/-! Fields and arrays. -/
theorem nar_b {v : Int} (h : v = 0 ∨ v = 1) : narrow .boolean (.int (Int32.ofInt v)) = .int (Int32.ofInt v) := by
  rcases h with rfl | rfl <;> decide +kernel
theorem narb_b {v : Int} (h : v = 0 ∨ v = 1) : vp_nar .boolean (Int32.ofInt v) = Int32.ofInt v := by
  rcases h with rfl | rfl <;> decide +kernel
theorem fit_b {v : Int} (h : v = 0 ∨ v = 1) : fits .boolean (.int (Int32.ofInt v)) = true := by
  rcases h with rfl | rfl <;> decide +kernel
theorem pfd_I : parseFieldDescriptor "I" = some .int := by decide +kernel
theorem pfd_Z : parseFieldDescriptor "Z" = some .boolean := by decide +kernel
section GA
variable {mt : Mt} {d : Nat} {P : PV → Mem → Prop} {pc nx tg : Nat} {lv st rest : List PV} {M : Mem}
theorem gV_get {ix ci k tc r : Nat} {ki : Int} {fs : List (Option Nat)} {o : Option Nat} {v : PV} (hl : lk pc mt.2.2.2.2.2 = some (nx, tg, .getfield ix)) (hf : fk ix mt.2.2.2.2.1 = some (ci, k, tc, ki)) (hs : shp r = some (.inl (ci, fs))) (ho : fs[k]? = some o)
    (hv : ki = (k : Int) → ∀ ad, cv ad v = fvl ad M r k o) (kk : gV mt d P nx lv (v :: rest) M) : gV mt d P pc lv (vR r :: rest) M := by
  intro p l e R s m args below meth c cells slots Q D ad A H0 cs C H locs ls hP hS hL
  have C' := C
  obtain ⟨c1, c2, c3, c4, c5, c6, c7, c8, c9, c10⟩ := C
  obtain ⟨r1, r2, r3⟩ := row_of c9 hl
  dsimp only [iln] at r1 r2
  subst r2
  obtain ⟨f0, CC, TT, NN, f1, f2, f3, -⟩ := c9.2.2.1 _ (fk_mem hf)
  refine va_get c1 c2 c5 (clOk _ _ _ _ f1).1 c4 c6 hP r (wld_get hs) f1 k f2 (c5 _ f3) (fun _ h => h) (v := cv ad v) ?_ r1 (kk p l e R s m args below meth c cells slots Q D ad A H0 cs C' H locs ls hP hS hL)
  rw [List.getElem?_mapIdx, ho, hv f0 ad]
  rfl
theorem gV_put {ix ci k tc r : Nat} {ki : Int} {fs : List (Option Nat)} {v : Int} (hl : lk pc mt.2.2.2.2.2 = some (nx, tg, .putfield ix)) (hf : fk ix mt.2.2.2.2.1 = some (ci, k, tc, ki)) (hs : shp r = some (.inl (ci, fs))) (ho : fs[k]? = some none)
    (hv : tc = 0 ∨ (tc = 1 ∧ (v = 0 ∨ v = 1))) (kk : gV mt d P nx lv rest (mw M r ki v)) : gV mt d P pc lv (vI v :: vR r :: rest) M := by
  intro p l e R s m args below meth c cells slots Q D ad A H0 cs C H locs ls hP hS hL
  have C' := C
  obtain ⟨c1, c2, c3, c4, c5, c6, c7, c8, c9, c10⟩ := C
  obtain ⟨r1, r2, r3⟩ := row_of c9 hl
  dsimp only [iln] at r1 r2
  subst r2
  obtain ⟨f0, CC, TT, NN, f1, f2, f3, f4, f5⟩ := c9.2.2.1 _ (fk_mem hf)
  have f0 : ki = (k : Int) := f0
  subst f0
  obtain ⟨g1, ty0, g2, g3⟩ := clOk _ _ _ _ f1
  have key : ∃ ty, (TT k).2.2.2 = false ∧ parseFieldDescriptor (TT k).2.2.1 = some ty ∧ narrow ty (.int (Int32.ofInt v)) = .int (Int32.ofInt v) ∧ fits ty (.int (Int32.ofInt v)) = true := by
    rcases hv with h | ⟨h, h9⟩
    · obtain ⟨q1, q2⟩ := f4 h
      exact ⟨.int, q2, by rw [q1]; exact pfd_I, rfl, rfl⟩
    · obtain ⟨q1, q2⟩ := f5 h
      exact ⟨.boolean, q2, by rw [q1]; exact pfd_Z, nar_b h9, fit_b h9⟩
  obtain ⟨ty, t1, t2, t3, t4⟩ := key
  have hlen : k < fs.length := (List.getElem?_eq_some_iff.mp ho).1
  refine va_put c1 c2 c5 g1 ty0 g2 g3 c4 c6 hP (c7 M) hS r (wld_get hs) f1 k f2 (c5 _ f3) (fun _ h => h) t1 t2 t3 t4 (by simpa using hlen) r1 (fun H1 locs1 h1 h2 h3 => ?_)
  have h1 : va_P D vwCl (wld cs ad (mw M r k v)) H1 := by
    rw [← wld_set hs rfl]
    simp only [cel]
    rw [← obj_mw ho]
    exact h1
  exact kk p l e R s m args below meth c cells slots Q D ad A H0 cs C' H1 locs1 ls h1 h3 hL
theorem gV_iald {r n : Nat} {i : Int} (hl : lk pc mt.2.2.2.2.2 = some (nx, tg, .iaload)) (hs : shp r = some (.inr (0, n))) (hn : n < 2147483648) (hi : 0 ≤ i ∧ i < n) (kk : gV mt d P nx lv (vI (M r i) :: rest) M) : gV mt d P pc lv (vI i :: vR r :: rest) M := by
  intro p l e R s m args below meth c cells slots Q D ad A H0 cs C H locs ls hP hS hL
  have C' := C
  obtain ⟨c1, c2, c3, c4, c5, c6, c7, c8, c9, c10⟩ := C
  obtain ⟨r1, r2, r3⟩ := row_of c9 hl
  dsimp only [iln] at r1 r2
  subst r2
  have k1 := kk p l e R s m args below meth c cells slots Q D ad A H0 cs C' H locs ls hP hS hL
  have e1 : cv ad (vI (M r i)) = .int ((fun j : Nat => Int32.ofInt (M r j)) (Int32.ofInt i).toNatClampNeg) := by
    simp only [cv]
    rw [i32_clamp hi.1 (by omega), Int.toNat_of_nonneg hi.1]
  simp only [List.map_cons, e1] at k1
  exact va_iald c1 c2 c6 hP r 0 (wld_get hs) rfl (i32_in hi.1 hi.2 hn) r1 k1
theorem gV_zald {r n : Nat} {i : Int} (hl : lk pc mt.2.2.2.2.2 = some (nx, tg, .baload)) (hs : shp r = some (.inr (1, n))) (hn : n < 2147483648) (hi : 0 ≤ i ∧ i < n) (kk : gV mt d P nx lv (vI (M r i) :: rest) M) : gV mt d P pc lv (vI i :: vR r :: rest) M := by
  intro p l e R s m args below meth c cells slots Q D ad A H0 cs C H locs ls hP hS hL
  have C' := C
  obtain ⟨c1, c2, c3, c4, c5, c6, c7, c8, c9, c10⟩ := C
  obtain ⟨r1, r2, r3⟩ := row_of c9 hl
  dsimp only [iln] at r1 r2
  subst r2
  have k1 := kk p l e R s m args below meth c cells slots Q D ad A H0 cs C' H locs ls hP hS hL
  have e1 : cv ad (vI (M r i)) = .int ((fun j : Nat => Int32.ofInt (M r j)) (Int32.ofInt i).toNatClampNeg) := by
    simp only [cv]
    rw [i32_clamp hi.1 (by omega), Int.toNat_of_nonneg hi.1]
  simp only [List.map_cons, e1] at k1
  exact va_zald c1 c2 c6 hP r 1 (wld_get hs) rfl (i32_in hi.1 hi.2 hn) r1 k1
theorem gV_aald {r n b : Nat} {i : Int} (hl : lk pc mt.2.2.2.2.2 = some (nx, tg, .aaload)) (hs : shp r = some (.inr (b + 2, n))) (hn : n < 2147483648) (hi : 0 ≤ i ∧ i < n) (kk : gV mt d P nx lv (vR (b + 2 + i.toNat) :: rest) M) : gV mt d P pc lv (vI i :: vR r :: rest) M := by
  intro p l e R s m args below meth c cells slots Q D ad A H0 cs C H locs ls hP hS hL
  have C' := C
  obtain ⟨c1, c2, c3, c4, c5, c6, c7, c8, c9, c10⟩ := C
  obtain ⟨r1, r2, r3⟩ := row_of c9 hl
  dsimp only [iln] at r1 r2
  subst r2
  have k1 := kk p l e R s m args below meth c cells slots Q D ad A H0 cs C' H locs ls hP hS hL
  have hin := i32_in hi.1 hi.2 hn
  have hlt : (Int32.ofInt i).toNatClampNeg < n := Nat.not_le.mp fun q => hin (Or.inr q)
  have e1 : cv ad (vR (b + 2 + i.toNat)) = va_rf ((fun j : Nat => some (ad (b + 2 + j))) (Int32.ofInt i).toNatClampNeg) := by
    simp only [cv]
    rw [i32_clamp hi.1 (by omega)]
    rfl
  simp only [List.map_cons, e1] at k1
  exact W.aald (ty := .array .int) c1 c2 (hP r _ (wld_get hs)) ((c6.2 2 _ rfl).1 n (fun j => va_rf (some (ad (b + 2 + j))))) rfl (fun q => by cases q) (by show ¬ (_ ∨ (arrV _ _ _).slots.size ≤ _); rw [arrV_size]; exact hin) (by show (arrV _ _ _).slots[_]? = _; rw [arrV_read _ _ hlt]) rfl rfl r1 k1
theorem gV_iast {r n : Nat} {i v : Int} (hl : lk pc mt.2.2.2.2.2 = some (nx, tg, .iastore)) (hs : shp r = some (.inr (0, n))) (hn : n < 2147483648) (hi : 0 ≤ i ∧ i < n) (kk : gV mt d P nx lv rest (mw M r i v)) : gV mt d P pc lv (vI v :: vI i :: vR r :: rest) M := by
  intro p l e R s m args below meth c cells slots Q D ad A H0 cs C H locs ls hP hS hL
  have C' := C
  obtain ⟨c1, c2, c3, c4, c5, c6, c7, c8, c9, c10⟩ := C
  obtain ⟨r1, r2, r3⟩ := row_of c9 hl
  dsimp only [iln] at r1 r2
  subst r2
  refine va_iast c1 c2 c6 hP (c7 M) hS r 0 (wld_get hs) rfl (i32_in hi.1 hi.2 hn) r1 (fun H1 locs1 h1 h2 h3 => ?_)
  rw [upd_mw hi.1 (by omega)] at h1
  have h1 : va_P D vwCl (wld cs ad (mw M r i v)) H1 := by
    rw [← wld_set hs rfl]
    exact h1
  exact kk p l e R s m args below meth c cells slots Q D ad A H0 cs C' H1 locs1 ls h1 h3 hL
theorem gV_zast {r n : Nat} {i v : Int} (hl : lk pc mt.2.2.2.2.2 = some (nx, tg, .bastore)) (hs : shp r = some (.inr (1, n))) (hn : n < 2147483648) (hi : (0 ≤ i ∧ i < n) ∧ (v = 0 ∨ v = 1)) (kk : gV mt d P nx lv rest (mw M r i v)) : gV mt d P pc lv (vI v :: vI i :: vR r :: rest) M := by
  intro p l e R s m args below meth c cells slots Q D ad A H0 cs C H locs ls hP hS hL
  have C' := C
  obtain ⟨c1, c2, c3, c4, c5, c6, c7, c8, c9, c10⟩ := C
  obtain ⟨r1, r2, r3⟩ := row_of c9 hl
  dsimp only [iln] at r1 r2
  subst r2
  refine va_zast c1 c2 c6 hP (c7 M) hS r 1 (wld_get hs) rfl (i32_in hi.1.1 hi.1.2 hn) r1 (fun H1 locs1 h1 h2 h3 => ?_)
  rw [narb_b hi.2, upd_mw hi.1.1 (by omega)] at h1
  have h1 : va_P D vwCl (wld cs ad (mw M r i v)) H1 := by
    rw [← wld_set hs rfl]
    exact h1
  exact kk p l e R s m args below meth c cells slots Q D ad A H0 cs C' H1 locs1 ls h1 h3 hL
end GA
