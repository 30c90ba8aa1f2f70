/-! The law: its switch and its calls. -/
section LW2
variable {X : Cx} {pc nx tg : Nat} {lv st rest as : List PV} {M : Mem} {mt' : Mt} {ix n : Nat} {P' : PV → Mem → Prop}
theorem and31 (y : Int32) : 0 ≤ (y &&& 31).toInt ∧ (y &&& 31).toInt ≤ 31 := by
  have h1 : (y &&& 31).toBitVec.toNat ≤ 31 := by
    rw [Int32.toBitVec_and, BitVec.toNat_and]
    exact Nat.and_le_right
  have h2 : (y &&& 31).toInt = ((y &&& 31).toBitVec.toNat : Int) := by
    show (y &&& 31).toBitVec.toInt = _
    exact BitVec.toInt_eq_toNat_of_lt (by omega)
  omega
theorem lW_and31 {x : Int} (C : lC X) (hl : lk pc tL_law = some (nx, tg, .iand)) (kk : ∀ v : Int, 0 ≤ v → v ≤ 31 → lW X nx lv (vI v :: rest) M) : lW X pc lv (vI 31 :: vI x :: rest) M := by
  have hv := and31 (Int32.ofInt x)
  have k0 := kk (Int32.ofInt x &&& 31).toInt hv.1 hv.2
  obtain ⟨p, l, e, R, s, m, args, below, meth, c, cells, slots, Q, D, ad, A, H0, cs, L, xs⟩ := X
  intro H locs ls hP hS hL
  obtain ⟨c1, c2, c3, c4, c5, c6, c7, c8, x1, x2, x3, x4⟩ := C
  obtain ⟨r1, r2, r3⟩ := lrow hl
  dsimp only [iln] at r1 r2
  subst r2
  have k1 := k0 H locs ls hP hS hL
  have e1 : cv ad (vI (Int32.ofInt x &&& 31).toInt) = .int (Int32.ofInt x &&& 31) := by
    simp only [cv]
    rw [Int32.ofInt_toInt]
  simp only [List.map_cons, e1] at k1
  exact lv_iand c1 c2 r1 k1
theorem lW_swIn {df lo hi : Int} {os : Array Int} {x off : Int} (C : lC X) (tgt : Nat) (hl : lk pc tL_law = some (nx, tg, .tableswitch df lo hi os)) (hx : rng x) (h1 : lo ≤ x) (h2 : x ≤ hi) (ho : os[(x - lo).toNat]? = some off) (ht : (pc : Int) + off = (tgt : Int)) (kk : lW X tgt lv rest M) : lW X pc lv (vI x :: rest) M := by
  obtain ⟨p, l, e, R, s, m, args, below, meth, c, cells, slots, Q, D, ad, A, H0, cs, L, xs⟩ := X
  intro H locs ls hP hS hL
  obtain ⟨c1, c2, c3, c4, c5, c6, c7, c8, x1, x2, x3, x4⟩ := C
  obtain ⟨r1, r2, r3⟩ := lrow hl
  exact lv_tableIn c1 c2 r1 (by rw [i32_toInt hx]; omega) (by rw [i32_toInt hx]; omega) (by rw [i32_toInt hx]; exact ho) ht (kk H locs ls hP hS hL)
theorem lW_swOut {df lo hi : Int} {os : Array Int} {x : Int} (C : lC X) (tgt : Nat) (hl : lk pc tL_law = some (nx, tg, .tableswitch df lo hi os)) (hx : rng x) (h1 : x < lo ∨ hi < x) (ht : (pc : Int) + df = (tgt : Int)) (kk : lW X tgt lv rest M) : lW X pc lv (vI x :: rest) M := by
  obtain ⟨p, l, e, R, s, m, args, below, meth, c, cells, slots, Q, D, ad, A, H0, cs, L, xs⟩ := X
  intro H locs ls hP hS hL
  obtain ⟨c1, c2, c3, c4, c5, c6, c7, c8, x1, x2, x3, x4⟩ := C
  obtain ⟨r1, r2, r3⟩ := lrow hl
  exact lv_tableOut c1 c2 r1 (by rw [i32_toInt hx]; exact h1) ht (kk H locs ls hP hS hL)
theorem lW_call {r ci d : Nat} {fs : List (Option Nat)} {T : u_T} {N : Nat} (C : lC X) (hok : gOk mt' d (vR r :: as) M P') (hm : mtOk mt') (hs : siteV RL ix mt'.1 n) (hd : Nat.ble d 39 = true) (hl : lk pc tL_law = some (nx, tg, .invokevirtual ix)) (hn : as.length = n) (hst : st = as.reverse ++ vR r :: rest) (hr : shp r = some (.inl (ci, fs))) (hc : vwCl[ci]? = some (mt'.1.cls, T, N)) (hz : (noL rest && Nat.ble rest.length 8) = true)
    (kk : ∀ (r : PV) (M : Mem), P' r M → lW X nx lv (rp r rest) M) : lW X pc lv st M := by
  have hd2 : d ≤ 39 := Nat.le_of_ble_eq_true hd
  obtain ⟨p, l, e, R, s, m, args, below, meth, c, cells, slots, Q, D, ad, A, H0, cs, L, xs⟩ := X
  intro H locs ls hP hS hL
  obtain ⟨c1, c2, c3, c4, c5, c6, c7, c8, x1, x2, x3, x4⟩ := C
  obtain ⟨r1, r2, r3⟩ := lrow hl
  dsimp only [iln] at r1 r2
  subst r2
  obtain ⟨s1, s2, s3, s4, s5⟩ := hs
  rw [Bool.and_eq_true] at hz
  have hz2 : rest.length ≤ 8 := Nat.le_of_ble_eq_true hz.2
  have hG : GoodIn lw_g (wsV RL ix mt'.1.cls mt'.1 (Cond.code mt'.1 mt'.2.1 mt'.2.2.1 mt'.2.2.2.1 :: lw_g)) := by
    intro w hw
    have hw2 : w ∈ lw_g := by
      unfold wsV at hw
      simp only [List.cons_append, List.nil_append, List.mem_cons] at hw
      rcases hw with rfl | rfl | rfl | rfl | rfl | hw
      · exact s1
      · exact s2
      · exact s3
      · exact s4
      · exact hm.2.2.2.2
      · exact hw
    exact ⟨hw2, tbl_good hw2⟩
  have hm20 := hm.2.2.2.1
  have cw : CallW R s args RL mt'.1.cls ix mt'.1 mt'.2.1 mt'.2.2.1 mt'.2.2.2.1 (Cond.code mt'.1 mt'.2.1 mt'.2.2.1 mt'.2.2.2.1 :: lw_g) (gRoom d) 0 0 n :=
    cwV n c5 hG rfl rfl rfl ⟨rfl, s5⟩ ⟨by show d + 1 ≤ R.frames; have := c8.1; omega, by show 8 + (mt'.2.2.1 + 11) + 40 * d ≤ R.locals; have := c8.2.1; omega⟩
  refine run_go (va_runV (As := as.map (cv ad)) (rest := rest.map (cv ad)) ⟨c1, c2, c3, c4, c5⟩ (hok l cs D ad) cw ⟨gW_blind, va_recv c6 hP hc (wld_get hr), fun U hU hW => ⟨by rw [List.map_cons]; rfl, by rw [hU]; exact hP, va_K.moved hW.alike c6, wld_D (c7 M) (fun _ _ => trivial)⟩⟩ rfl (by rw [List.length_map]; exact hn) hL.2.1 (by rw [hst]; simp [cv]) (lv_room (by rw [noL_sum ad rest hz.1]; exact hz2)) r1 ⟨c8.2.2.1, c8.2.2.2⟩) hS (wld_A (c7 M)) (fun r M1 H1 locs1 h1 h2 h3 => ?_)
  rw [rp_map]
  exact kk r M1 h1 H1 locs1 ls h2 h3 hL
end LW2
