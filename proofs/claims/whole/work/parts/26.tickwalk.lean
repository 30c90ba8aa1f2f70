/-! The class: a bucket comes there, a tick, ticks. -/
theorem ok_reach {d : Nat} {M : Mem} {lo : Int → Int} {x b l : Int} {P : PV → Mem → Prop} (h : AI M lo x) (b0 : 0 ≤ b) (b8 : b < 8) (hu : M 9 l = 1) (hon : M 19 b ≠ -6) (hP : P none (aReach M b l)) : gOk mX5_reach (d + 3) [vR 5, vI b, vI l] M P := by
  obtain ⟨l0, lL, l4⟩ := AI_up h hu
  have hA := AI_rch0 (b := b) h b0 b8 hu hon
  have hb := h.2.2.1 b
  have hL := h.1.1
  have e19 : aRch0 M b l 19 b = l := by rw [aRch0_19, up1_s]
  have e9 : aRch0 M b l 9 = M 9 := aRch0_o M b l (by decide) (by decide) (by decide)
  have fin : gV mX5_reach (d + 3) P 48 [vR 5, vI b, vI l] [] (aRch0 M b l) := by
    repeat (refine gV_s rfl (by first | exact trivial | omega) ?_)
    refine gV_cV (ok_release (d := d) (P := fun r M' => (∃ v, r = vI v) ∧ M' = aReach M b l) hA Ex.rf b0 b8 (Or.inr (by rw [e19, e9]; exact hu)) ⟨⟨_, rfl⟩, rfl⟩) mX5_release_ok sX5_X5_release rfl rfl rfl rfl rfl rfl ?_
    rintro r M' ⟨⟨v, rfl⟩, rfl⟩
    repeat (refine gV_s rfl (by first | exact trivial | omega) ?_)
    exact gV_retv rfl trivial hP
  refine gOk_of mX5_reach_ok (by simp) (Nat.le_of_ble_eq_true rfl) ?_
  repeat (refine gV_s rfl (by first | exact trivial | omega) ?_)
  refine gV_i rfl (by unfold rng; omega) (fun h1 => ?_) (fun h1 => ?_)
  · have e : aRch0 M b l = mw (mw M 20 b (-6)) 19 b l := by unfold aRch0; rw [if_pos h1]
    rw [e] at fin
    refine gV_s rfl trivial (gV_s rfl trivial (gV_s rfl trivial (gV_s rfl trivial (gV_s rfl trivial (gV_s rfl ⟨b0, b8⟩ (gV_s rfl trivial (gV_s rfl trivial (gV_s rfl trivial (gV_s rfl trivial (gV_s rfl trivial (gV_s rfl ⟨b0, b8⟩ ?_)))))))))))
    exact fin
  · have e : aRch0 M b l = mw (mw (mw M 23 b (M 23 b + 1)) 20 b (-6)) 19 b l := by unfold aRch0; rw [if_neg h1]
    rw [e] at fin
    refine gV_s rfl trivial (gV_s rfl trivial (gV_s rfl trivial (gV_s rfl trivial (gV_s rfl trivial (gV_s rfl ⟨b0, b8⟩ (gV_s rfl trivial (gV_s rfl trivial (gV_s rfl ⟨b0, b8⟩ ?_))))))))
    refine gV_s rfl trivial (gV_s rfl trivial (gV_s rfl trivial (gV_s rfl trivial (gV_s rfl trivial (gV_s rfl ⟨b0, b8⟩ (gV_s rfl trivial (gV_s rfl trivial (gV_s rfl trivial (gV_s rfl trivial (gV_s rfl trivial (gV_s rfl ⟨b0, b8⟩ ?_)))))))))))
    exact fin
theorem ok_settle {d : Nat} {M : Mem} {lo : Int → Int} {x b : Int} {P : PV → Mem → Prop} (h : AI M lo x) (b0 : 0 ≤ b) (b8 : b < 8) (hg : goal M b ≠ -6 → M 9 (goal M b) = 1 ∧ M 19 b ≠ -6) (hP : P none (aSettle M b)) : gOk mX5_settle (d + 4) [vR 5, vI b] M P := by
  have hb := h.2.2.1 b
  have hL := h.1.1
  have fin : gV mX5_settle (d + 4) P 39 [vR 5, vI b, vI (goal M b)] [vI (-6), vI (goal M b)] M := by
    have hgl := goal_lt (b := b) h
    have hgr : -6 ≤ goal M b := by unfold goal; split <;> omega
    refine gV_i rfl (by unfold rng; omega) (fun h1 => ?_) (fun h1 => ?_)
    · have e : aSettle M b = M := by unfold aSettle; rw [if_neg (fun q => q.1 h1)]
      rw [e] at hP
      exact gV_retv rfl trivial hP
    · obtain ⟨g1, g2⟩ := hg h1
      obtain ⟨l0, lL, l4⟩ := AI_up h g1
      repeat (refine gV_s rfl (by first | exact trivial | omega) ?_)
      refine gV_cV (ok_mayReach (d := d + 2) h (by unfold rng; omega) l0 l4) mX5_mayReach_ok sX5_X5_mayReach rfl rfl rfl rfl rfl rfl ?_
      rintro r M' ⟨rfl, ⟨h2, rfl⟩ | ⟨h2, rfl⟩⟩
      · refine gV_in rfl (by unfold rng; omega) (by omega) ?_
        have e : aSettle M' b = aReach M' b (goal M' b) := by unfold aSettle; rw [if_pos ⟨h1, h2⟩]
        rw [e] at hP
        repeat (refine gV_s rfl (by first | exact trivial | omega) ?_)
        refine gV_cV (ok_reach (d := d) (P := fun r M'' => r = none ∧ M'' = aReach M' b (goal M' b)) h b0 b8 g1 g2 ⟨rfl, rfl⟩) mX5_reach_ok sX5_X5_reach rfl rfl rfl rfl rfl rfl ?_
        rintro r M'' ⟨rfl, rfl⟩
        exact gV_retv rfl trivial hP
      · refine gV_it rfl (by unfold rng; omega) rfl ?_
        have e : aSettle M' b = M' := by unfold aSettle; rw [if_neg (fun q => h2 q.2)]
        rw [e] at hP
        exact gV_retv rfl trivial hP
  refine gOk_of mX5_settle_ok (by simp) (Nat.le_of_ble_eq_true rfl) ?_
  repeat (refine gV_s rfl (by first | exact trivial | omega) ?_)
  refine gV_i rfl (by unfold rng; omega) (fun h1 => ?_) (fun h1 => ?_)
  · repeat (refine gV_s rfl (by first | exact trivial | omega) ?_)
    have e : goal M b = M 19 b := by unfold goal; rw [if_pos h1]
    rw [e] at fin
    exact fin
  · repeat (refine gV_s rfl (by first | exact trivial | omega) ?_)
    have e : goal M b = M 20 b := by unfold goal; rw [if_neg h1]
    rw [e] at fin
    exact fin
/-- numbers of letters underway, as the machine compares them -/
theorem AI_ins {M : Mem} {lo : Int → Int} {x : Int} (h : AI M lo x) {s : Int} (s0 : 0 ≤ s) (s6 : s < 6) : 0 ≤ M 41 s ∧ M 41 s ≤ 400 := by
  have h4 := h.1.2.2.1
  have k1 := h.2.2.2.2.2.2.2.1 s s0 s6
  have n1 := ct_nn (fun j => decide (M 34 j = s)) (M 4 0).toNat
  omega
theorem AI_bk {M : Mem} {lo : Int → Int} {x : Int} (h : AI M lo x) (b : Int) : (-6 ≤ M 19 b ∧ M 19 b < 4) ∧ (-6 ≤ M 20 b ∧ M 20 b < 4) ∧ (0 ≤ M 21 b ∧ M 21 b ≤ 1) := by
  have hb := h.2.2.1 b
  have hL := h.1.1
  omega
theorem ok_isBusy {d : Nat} {M : Mem} {lo : Int → Int} {x : Int} (h : AI M lo x) : gOk mX5_isBusy (d + 2) [vR 5] M (yn (¬ idle M) M) := by
  have n1 := AI_ins h (s := 1) (by decide) (by decide)
  have n2 := AI_ins h (s := 2) (by decide) (by decide)
  have n3 := AI_ins h (s := 3) (by decide) (by decide)
  refine gOk_of mX5_isBusy_ok (by simp) (Nat.le_of_ble_eq_true rfl) ?_
  repeat (refine gV_s rfl (by first | exact trivial | omega) ?_)
  refine gV_cV (ok_underway (d := d + 1) (M := M) (by unfold rng; omega)) mX2_isAnyUnderway_ok sX5_X2_isAnyUnderway rfl rfl rfl rfl rfl rfl ?_
  rintro r M' ⟨rfl, ⟨h2, rfl⟩ | ⟨h2, rfl⟩⟩
  · refine gV_in rfl (by unfold rng; omega) (by omega) ?_
    repeat (refine gV_s rfl (by first | exact trivial | omega) ?_)
    exact gV_ret rfl (Or.inr rfl) ⟨rfl, Or.inl ⟨fun q => by have := q.1; omega, rfl⟩⟩
  · refine gV_it rfl (by unfold rng; omega) rfl ?_
    repeat (refine gV_s rfl (by first | exact trivial | omega) ?_)
    refine gV_cV (ok_anyUns (d := d) (M := M') (fun b => by have := AI_bk h b; unfold rng; omega) (fun b => by have := AI_bk h b; unfold rng; omega)) mX0_isAnyUnsettled_ok sX5_X0_isAnyUnsettled rfl rfl rfl rfl rfl rfl ?_
    rintro r M'' ⟨rfl, ⟨h3, rfl⟩ | ⟨h3, rfl⟩⟩
    · refine gV_in rfl (by unfold rng; omega) (by omega) ?_
      repeat (refine gV_s rfl (by first | exact trivial | omega) ?_)
      refine gV_ret rfl (Or.inr rfl) ⟨rfl, Or.inl ⟨fun q => ?_, rfl⟩⟩
      obtain ⟨j, j0, j1, j2⟩ := h3
      have := q.2 j j0 j1
      omega
    · refine gV_it rfl (by unfold rng; omega) rfl ?_
      repeat (refine gV_s rfl (by first | exact trivial | omega) ?_)
      refine gV_ret rfl (Or.inl rfl) ⟨rfl, Or.inr ⟨fun q => q ⟨by omega, fun b b0 b8 => ?_⟩, rfl⟩⟩
      by_cases e1 : M'' 20 b = -6
      · by_cases e2 : M'' 21 b = 0
        · exact ⟨e1, e2⟩
        · exact absurd ⟨b, b0, b8, Or.inr e2⟩ h3
      · exact absurd ⟨b, b0, b8, Or.inl e1⟩ h3
theorem tk_lvs_loop {d : Nat} {S : Mem} {lo : Int → Int} {x : Int} {P : PV → Mem → Prop} (h : AI S lo x) (hlo : ∀ l, lo l < S 5 0) (kk : ∀ z : Int, gV mX5_passTick (d + 5) P 46 [vR 5, vI z] [] (aLvs S (S 1 0).toNat)) : ∀ (n k : Nat), (k : Int) + n = S 1 0 → gV mX5_passTick (d + 5) P 20 [vR 5, vI k] [vI (S 1 0), vI k] (aLvs S k)
  | 0, k, hk => by
    have hL := h.1.1
    have e : k = (S 1 0).toNat := by omega
    subst e
    exact gV_it rfl (by unfold rng; omega) (by omega) (kk _)
  | n + 1, k, hk => by
    have hL := h.1.1
    have hS := AI_lvs h hlo k
    have ih := tk_lvs_loop h hlo kk n (k + 1) (by push_cast; omega)
    have eo : ∀ j r, r ≠ 37 → r ≠ 38 → r ≠ 34 → r ≠ 41 → r ≠ 16 → r ≠ 18 → aLvs S j r = S r := fun j r a1 a2 a3 a4 a5 a6 => aLvs_o S a1 a2 a3 a4 a5 a6 j
    have e1 : aLvs S (k + 1) 1 0 = S 1 0 := by rw [eo _ 1 (by decide) (by decide) (by decide) (by decide) (by decide) (by decide)]
    have e9 := hS.2.1.2.1 k
    have step : aLvs S (k + 1) = if aLvs S k 9 k = 0 then aLvs S k else aLvK (aLvs S k) k (lvN (aLvs S k) k) := rfl
    rw [step] at ih e1
    refine gV_in rfl (by unfold rng; omega) (by omega) ?_
    repeat (refine gV_s rfl (by first | exact trivial | omega) ?_)
    refine gV_i rfl (by unfold rng; omega) (fun h1 => ?_) (fun h1 => ?_)
    · rw [if_pos h1] at ih e1
      repeat (refine gV_s rfl (by first | exact trivial | omega) ?_)
      rw [e1]
      exact ih
    · rw [if_neg h1] at ih e1
      repeat (refine gV_s rfl (by first | exact trivial | omega) ?_)
      refine gV_cV (ok_leave (d := d + 3) (P := fun r M' => r = none ∧ M' = aLvK (aLvs S k) k (lvN (aLvs S k) k)) hS (by omega) (by rw [eo _ 5 (by decide) (by decide) (by decide) (by decide) (by decide) (by decide)]; exact hlo _) ⟨rfl, rfl⟩) mX5_leave_ok sX5_X5_leave rfl rfl rfl rfl rfl rfl ?_
      rintro r M' ⟨rfl, rfl⟩
      repeat (refine gV_s rfl (by first | exact trivial | omega) ?_)
      rw [e1]
      exact ih
theorem tk_ars_loop {d : Nat} {S : Mem} {P : PV → Mem → Prop} {x : Int} (h : AI S (fun _ => S 5 0 - 1) x) (kk : ∀ z : Int, gV mX5_passTick (d + 5) P 70 [vR 5, vI z] [] (aArs S (S 1 0).toNat)) : ∀ (n k : Nat), (k : Int) + n = S 1 0 → gV mX5_passTick (d + 5) P 56 [vR 5, vI k] [vI (S 1 0), vI k] (aArs S k)
  | 0, k, hk => by
    have hL := h.1.1
    have e : k = (S 1 0).toNat := by omega
    subst e
    exact gV_it rfl (by unfold rng; omega) (by omega) (kk _)
  | n + 1, k, hk => by
    have hL := h.1.1
    have hS := AI_ars h k (by omega)
    have ih := tk_ars_loop h kk n (k + 1) (by push_cast; omega)
    have e1 : aArs S (k + 1) 1 0 = S 1 0 := by rw [aArs_o _ (by decide) (by decide) (by decide) (by decide) (by decide) (by decide) (by decide) (by decide)]
    have step : aArs S (k + 1) = aAr (aArs S k) k := rfl
    rw [step] at ih e1
    refine gV_in rfl (by unfold rng; omega) (by omega) ?_
    repeat (refine gV_s rfl (by first | exact trivial | omega) ?_)
    refine gV_cV (ok_arrive (d := d + 2) (P := fun r M' => r = none ∧ M' = aAr (aArs S k) k) hS (by omega) (by omega) ⟨rfl, rfl⟩) mX5_arrive_ok sX5_X5_arrive rfl rfl rfl rfl rfl rfl ?_
    rintro r M' ⟨rfl, rfl⟩
    repeat (refine gV_s rfl (by first | exact trivial | omega) ?_)
    rw [e1]
    exact ih
theorem tk_sets_loop {d : Nat} {S : Mem} {P : PV → Mem → Prop} {lo : Int → Int} (h : AI S lo (-1)) (hP : P none (aSets S 8)) : ∀ (n k : Nat), k + n = 8 → gV mX5_passTick (d + 5) P 91 [vR 5, vI k] [vI 8, vI k] (aSets S k)
  | 0, k, hk => by
    have e : k = 8 := by omega
    subst e
    refine gV_it rfl (by unfold rng; omega) (by omega) ?_
    exact gV_retv rfl trivial hP
  | n + 1, k, hk => by
    have hS := AI_sets h k (by omega)
    have ih := tk_sets_loop (d := d) h hP n (k + 1) (by omega)
    have hb := AI_bk hS k
    have step : aSets S (k + 1) = if aSets S k 20 k ≠ -6 ∨ aSets S k 21 k ≠ 0 then aSettle (aSets S k) k else aSets S k := rfl
    rw [step] at ih
    refine gV_in rfl (by unfold rng; omega) (by omega) ?_
    repeat (refine gV_s rfl (by first | exact trivial | omega) ?_)
    refine gV_cV (ok_isUnsettled (d := d + 4) (M := aSets S k) (b := k) (by omega) (by omega) (by unfold rng; omega) (by unfold rng; omega)) mX0_isUnsettled_ok sX5_X0_isUnsettled rfl rfl rfl rfl rfl rfl ?_
    rintro r M' ⟨rfl, ⟨h2, rfl⟩ | ⟨h2, rfl⟩⟩
    · rw [if_pos h2] at ih
      refine gV_in rfl (by unfold rng; omega) (by omega) ?_
      repeat (refine gV_s rfl (by first | exact trivial | omega) ?_)
      refine gV_cV (ok_settle (d := d) (P := fun r M' => r = none ∧ M' = aSettle (aSets S k) k) hS (by omega) (by omega) (goal_up hS) ⟨rfl, rfl⟩) mX5_settle_ok sX5_X5_settle rfl rfl rfl rfl rfl rfl ?_
      rintro r M' ⟨rfl, rfl⟩
      repeat (refine gV_s rfl (by first | exact trivial | omega) ?_)
      exact ih
    · rw [if_neg h2] at ih
      refine gV_it rfl (by unfold rng; omega) rfl ?_
      repeat (refine gV_s rfl (by first | exact trivial | omega) ?_)
      exact ih
theorem ok_passTick {d : Nat} {M : Mem} {P : PV → Mem → Prop} (h : NI M) (ht : M 5 0 < 1000000) (hP : P none (aTick M)) : gOk mX5_passTick (d + 5) [vR 5] M P := by
  have hL := h.1.1
  have e1 : tk1 M 1 0 = M 1 0 := by unfold tk1; rw [mw_rn _ _ _ (by decide)]
  have et : tk2 M 5 0 = M 5 0 + 1 := by rw [tk2_5]; exact tk1_t M
  have e21 : tk2 M 1 0 = M 1 0 := by rw [tk2_1]
  refine gOk_of mX5_passTick_ok (by simp) (Nat.le_of_ble_eq_true rfl) ?_
  repeat (refine gV_s rfl (by first | exact trivial | omega) ?_)
  have l1 := tk_lvs_loop (d := d) (P := P) (AI_tk1 h ht) (fun l => by rw [tk1_t]; omega) (fun z => ?_) (tk1 M 1 0).toNat 0 (by omega)
  · exact l1
  · have e2 : aLvs (tk1 M) (tk1 M 1 0).toNat = tk2 M := by rw [e1]; rfl
    rw [e2]
    repeat (refine gV_s rfl (by first | exact trivial | omega) ?_)
    have l2 := tk_ars_loop (d := d) (P := P) (S := tk2 M) (x := -1) (by rw [et, show M 5 0 + 1 - 1 = M 5 0 by omega]; exact AI_tk2 h ht) (fun z => ?_) (tk2 M 1 0).toNat 0 (by omega)
    · exact l2
    · have e3 : aArs (tk2 M) (tk2 M 1 0).toNat = tk3 M := by rw [e21]; rfl
      rw [e3]
      have hA3 := AI_tk3 h ht
      have n3 := AI_ins hA3 (s := 3) (by decide) (by decide)
      repeat (refine gV_s rfl (by first | exact trivial | omega) ?_)
      refine gV_i rfl (by unfold rng; omega) (fun h1 => ?_) (fun h1 => ?_)
      · have e4 : tk4 M = tk3 M := by unfold tk4 aOuts; rw [if_neg (by omega)]
        have hA4 := AI_tk4 h ht
        have hP4 : P none (aSets (tk4 M) 8) := hP
        rw [e4] at hA4 hP4
        repeat (refine gV_s rfl (by first | exact trivial | omega) ?_)
        exact tk_sets_loop hA4 hP4 8 0 rfl
      · have e4 : tk4 M = aOutC (bl0 (tk3 M) 16) (tk3 M 4 0).toNat := by unfold tk4 aOuts; rw [if_pos (by omega)]
        have hA4 := AI_tk4 h ht
        have hP4 : P none (aSets (tk4 M) 8) := hP
        repeat (refine gV_s rfl (by first | exact trivial | omega) ?_)
        refine gV_cV (ok_letOutInOrder (d := d + 2) (P := fun r M' => r = none ∧ M' = tk4 M) hA3 ⟨rfl, e4.symm⟩) mX5_letOutInOrder_ok sX5_X5_letOutInOrder rfl rfl rfl rfl rfl rfl ?_
        rintro r M' ⟨rfl, rfl⟩
        repeat (refine gV_s rfl (by first | exact trivial | omega) ?_)
        exact tk_sets_loop hA4 hP4 8 0 rfl
