/-! The class's Traffic, walked: sending, links, moves, failing. -/
theorem ok_post {d : Nat} {M : Mem} {lo : Int → Int} {f : Int} {P : PV → Mem → Prop} (h : AI M lo (-1)) (f0 : 0 ≤ f) (f1 : f < M 3 0) (hn4 : M 4 0 < 400) (hP : P none (aPost M f)) : gOk mX5_post (d + 2) [vR 5, vI f] M P := by
  have hF := h.1.2.1
  have hn := h.1.2.2.1
  obtain ⟨b0, b8⟩ := bkO_in h f0 (by omega)
  have hff := h.2.2.2.2.2.1 f
  have ha := h.1.2.2.2.2.2
  generalize hb : bkO M f = b at b0 b8
  have hbk := AI_bk h b
  have hJb := h.2.2.1 b
  have hkh := h.2.2.2.2.2.2.2.2.1 b b0 b8
  have hnn := ct_nn (fun j => decide (M 34 j = 0 ∧ M 33 j = b)) (M 4 0).toNat
  unfold aPost at hP
  rw [hb] at hP
  refine gOk_of mX5_post_ok (by simp) (Nat.le_of_ble_eq_true rfl) ?_
  repeat (refine gV_s rfl (by first | exact trivial | omega) ?_)
  refine gV_it rfl (by unfold rng; omega) hn4 ?_
  repeat (refine gV_s rfl (by first | exact trivial | omega) ?_)
  refine gV_cV (ok_bucketOf (d := d + 1) (P := fun r M' => r = vI b ∧ M' = M) f0 (by omega) ha.1 ha.2.1 (by unfold rng; omega) ⟨by rw [hb], rfl⟩) mX1_bucketOf_ok sX5_X1_bucketOf rfl rfl rfl rfl rfl rfl ?_
  rintro r M' ⟨rfl, rfl⟩
  repeat (refine gV_s rfl (by first | exact trivial | omega) ?_)
  refine gV_cV (ok_letterAdd (d := d + 1) (P := fun r M'' => r = vI (M' 4 0) ∧ M'' = aAdd M' f (M' 26 f) b (M' 5 0)) hn.1 hn4 ⟨rfl, rfl⟩) mX2_add_ok sX5_X2_add rfl rfl rfl rfl rfl rfl ?_
  rintro r M'' ⟨rfl, rfl⟩
  have e26 : aAdd M' f (M' 26 f) b (M' 5 0) 26 = M' 26 := by unfold aAdd; simp only [mw_rn, ne_eq, not_false_eq_true, Nat.reduceEqDiff, Nat.reduceLT, Nat.reduceLeDiff, true_or, or_true, forall_const]
  have eo : ∀ r, r = 19 ∨ r = 21 ∨ r = 22 → mw (aAdd M' f (M' 26 f) b (M' 5 0)) 26 f (aAdd M' f (M' 26 f) b (M' 5 0) 26 f + 1) r = M' r := by
    rintro r (rfl | rfl | rfl) <;> (unfold aAdd; simp only [mw_rn, ne_eq, not_false_eq_true, Nat.reduceEqDiff, Nat.reduceLT, Nat.reduceLeDiff, true_or, or_true, forall_const])
  have eT : mw (aAdd M' f (M' 26 f) b (M' 5 0)) 26 f (aAdd M' f (M' 26 f) b (M' 5 0) 26 f + 1) = aPost0 M' f := by
    unfold aPost0
    rw [hb, e26]
  have e34 : aPost0 M' f 34 (M' 4 0) = 0 := by unfold aPost0 aAdd; simp only [mw_rs, mw_rn, ne_eq, not_false_eq_true, Nat.reduceEqDiff, Nat.reduceLT, Nat.reduceLeDiff, true_or, or_true, forall_const, up1_s]
  have e17 : aPost0 M' f 17 = M' 17 := by unfold aPost0 aAdd; simp only [mw_rn, ne_eq, not_false_eq_true, Nat.reduceEqDiff, Nat.reduceLT, Nat.reduceLeDiff, true_or, or_true, forall_const]
  repeat (refine gV_s rfl (by first | exact trivial | omega) ?_)
  rw [eo 21 (by omega)]
  have hold : ∀ (st : List PV), gV mX5_post (d + 2) P 97 [vR 5, vI f, vI b, vI (M' 4 0)] [] (mw (aAdd M' f (M' 26 f) b (M' 5 0)) 26 f (aAdd M' f (M' 26 f) b (M' 5 0) 26 f + 1)) ∨ True := fun _ => Or.inr trivial
  refine gV_i rfl (by unfold rng; omega) (fun h1 => ?_) (fun h1 => ?_)
  · repeat (refine gV_s rfl (by first | exact trivial | omega) ?_)
    rw [eo 19 (by omega)]
    refine gV_i rfl (by unfold rng; omega) (fun h2 => ?_) (fun h2 => ?_)
    · rw [if_pos (Or.inr (Or.inl h2))] at hP
      repeat (refine gV_s rfl (by first | exact trivial | omega) ?_)
      refine gV_retv rfl trivial ?_
      have e : mw (mw (aAdd M' f (M' 26 f) b (M' 5 0)) 26 f (aAdd M' f (M' 26 f) b (M' 5 0) 26 f + 1)) 22 b (mw (aAdd M' f (M' 26 f) b (M' 5 0)) 26 f (aAdd M' f (M' 26 f) b (M' 5 0) 26 f + 1) 22 b + 1) = aNew M' f b := by
        rw [eo 22 (by omega), e26]; rfl
      rw [e]
      exact hP
    · repeat (refine gV_s rfl (by first | exact trivial | omega) ?_)
      rw [eo 22 (by omega)]
      refine gV_i rfl (by rw [hkh]; unfold rng; omega) (fun h3 => ?_) (fun h3 => ?_)
      · rw [if_neg (by omega)] at hP
        have hu : M' 9 (M' 19 b) = 1 := by rcases hJb.1 with q | ⟨q1, q2, q3 | q3⟩ <;> first | exact q3 | omega
        obtain ⟨l0, lL, l4⟩ := AI_up h hu
        have hq := (h.2.2.2.2.2.2.2.2.2.2.2.1 _ l0 l4).1
        have hkl := (h.2.2.2.2.2.2.2.2.2.2.1 _ l0 l4).1
        have hnn2 := ct_nn (fun j => decide (M' 35 j = M' 19 b)) (M' 4 0).toNat
        repeat (refine gV_s rfl (by first | exact trivial | omega) ?_)
        rw [eo 19 (by omega), eT]
        refine gV_cV (ok_enqueue (d := d) (P := fun r M'' => r = none ∧ M'' = aEnq (aPost0 M' f) (M' 4 0) (M' 19 b)) hn.1 hn4 l0 l4 (by rw [e17]; omega) (by rw [e17]; omega) (by rw [e34]; omega) ⟨rfl, rfl⟩) mX5_enqueue_ok sX5_X5_enqueue rfl rfl rfl rfl rfl rfl ?_
        rintro r M'' ⟨rfl, rfl⟩
        exact gV_retv rfl trivial hP
      · rw [if_pos (Or.inr (Or.inr (by omega)))] at hP
        repeat (refine gV_s rfl (by first | exact trivial | omega) ?_)
        refine gV_retv rfl trivial ?_
        have e : mw (mw (aAdd M' f (M' 26 f) b (M' 5 0)) 26 f (aAdd M' f (M' 26 f) b (M' 5 0) 26 f + 1)) 22 b (mw (aAdd M' f (M' 26 f) b (M' 5 0)) 26 f (aAdd M' f (M' 26 f) b (M' 5 0) 26 f + 1) 22 b + 1) = aNew M' f b := by
          rw [eo 22 (by omega), e26]; rfl
        rw [e]
        exact hP
  · rw [if_pos (Or.inl h1)] at hP
    repeat (refine gV_s rfl (by first | exact trivial | omega) ?_)
    refine gV_retv rfl trivial ?_
    have e : mw (mw (aAdd M' f (M' 26 f) b (M' 5 0)) 26 f (aAdd M' f (M' 26 f) b (M' 5 0) 26 f + 1)) 22 b (mw (aAdd M' f (M' 26 f) b (M' 5 0)) 26 f (aAdd M' f (M' 26 f) b (M' 5 0) 26 f + 1) 22 b + 1) = aNew M' f b := by
      rw [eo 22 (by omega), e26]; rfl
    rw [e]
    exact hP
theorem take_loop {d : Nat} {S : Mem} {lo : Int → Int} {l : Int} {P : PV → Mem → Prop} (h : AI S lo (-2)) (hu : S 9 l = 1) (hP : P (vI (ct (is_ (S 19) (-6)) 8)) (aTake S l 8)) : ∀ (n k : Nat), k + n = 8 → gV mX5_takeIn (d + 3) P 7 [vR 5, vI l, vI (ct (is_ (S 19) (-6)) k), vI k] [vI 8, vI k] (aTake S l k)
  | 0, k, hk => by
    have e : k = 8 := by omega
    subst e
    refine gV_it rfl (by unfold rng; omega) (show (8 : Int) ≤ _ by omega) ?_
    repeat (refine gV_s rfl (by first | exact trivial | omega) ?_)
    exact gV_ret rfl trivial hP
  | n + 1, k, hk => by
    obtain ⟨l0, lL, l4⟩ := AI_up h hu
    have hS := AI_take h hu k (by omega)
    have hbk := AI_bk hS k
    have e9 : aTake S l k 9 = S 9 := aTake_o S l0 l4 (by decide) (by decide) (by decide) (by decide) (by decide) (by decide) (by decide) (by omega) k
    have e19 : aTake S l k 19 k = S 19 k := by rw [aTake_19 S l0 l4, if_neg (by omega)]
    have ih := take_loop (d := d) h hu hP n (k + 1) (by omega)
    have step : aTake S l (k + 1) = if aTake S l k 19 k = -6 then aRel (mw (aTake S l k) 19 k l) k else aTake S l k := rfl
    rw [step, ct_s _ k] at ih
    refine gV_in rfl (by unfold rng; omega) (show ¬ (8 : Int) ≤ _ by omega) ?_
    repeat (refine gV_s rfl (by first | exact trivial | omega) ?_)
    refine gV_i rfl (by unfold rng; omega) (fun h1 => ?_) (fun h1 => ?_)
    · rw [if_pos h1, if_pos (by rw [e19] at h1; simpa using h1)] at ih
      repeat (refine gV_s rfl (by first | exact trivial | omega) ?_)
      refine gV_cV (ok_release (d := d) (P := fun r M' => (∃ v, r = vI v) ∧ M' = aRel (mw (aTake S l k) 19 k l) k) (M := mw (aTake S l k) 19 k l) hS (Ex.skip1 Ex.rf (by decide)) (by omega) (by omega) (Or.inr (by rw [mw_rs, up1_s, e9]; exact hu)) ⟨⟨_, rfl⟩, rfl⟩) mX5_release_ok sX5_X5_release rfl rfl rfl rfl rfl rfl ?_
      rintro r M' ⟨⟨v, rfl⟩, rfl⟩
      repeat (refine gV_s rfl (by first | exact trivial | omega) ?_)
      exact ih
    · rw [if_neg h1, if_neg (by rw [e19] at h1; simpa using h1), Int.add_zero] at ih
      repeat (refine gV_s rfl (by first | exact trivial | omega) ?_)
      exact ih
theorem ok_takeIn {d : Nat} {M : Mem} {lo : Int → Int} {l : Int} {P : PV → Mem → Prop} (h : AI M lo (-2)) (hu : M 9 l = 1) (hP : P (vI (ct (is_ (M 19) (-6)) 8)) (aTake M l 8)) : gOk mX5_takeIn (d + 3) [vR 5, vI l] M P := by
  refine gOk_of mX5_takeIn_ok (by simp) (Nat.le_of_ble_eq_true rfl) ?_
  repeat (refine gV_s rfl (by first | exact trivial | omega) ?_)
  exact take_loop h hu hP 8 0 rfl
theorem ok_cancel {d : Nat} {M : Mem} {lo : Int → Int} {x b : Int} {P : PV → Mem → Prop} (h : AI M lo x) (b0 : 0 ≤ b) (b8 : b < 8) (hon : M 19 b = -6 ∨ M 9 (M 19 b) = 1) (hP : P (vI (M 22 b)) (aCancel M b)) : gOk mX5_cancelMove (d + 3) [vR 5, vI b] M P := by
  refine gOk_of mX5_cancelMove_ok (by simp) (Nat.le_of_ble_eq_true rfl) ?_
  repeat (refine gV_s rfl (by first | exact trivial | omega) ?_)
  refine gV_cV (ok_release (d := d) (P := fun r M' => r = vI (M 22 b) ∧ M' = aCancel M b) (M := mw M 20 b (-6)) h (Ex.skip1 Ex.rf (by decide)) b0 b8 (by rw [mw_rn _ _ _ (by decide)]; exact hon) ⟨by rw [mw_rn _ _ _ (by decide)], rfl⟩) mX5_release_ok sX5_X5_release rfl rfl rfl rfl rfl rfl ?_
  rintro r M' ⟨rfl, rfl⟩
  exact gV_ret rfl trivial hP
theorem ok_startMove {d : Nat} {M : Mem} {lo : Int → Int} {b l how : Int} (h : AI M lo (-1)) (b0 : 0 ≤ b) (b8 : b < 8) (hu : M 9 l = 1) (hon : M 19 b ≠ -6) (hne : M 19 b ≠ l) (hho : M 21 b = 0) (hh : 0 ≤ how ∧ how ≤ 2) : gOk mX5_startMove (d + 5) [vR 5, vI b, vI l, vI how] M (yn (aMove M b l how 20 b = -6) (aMove M b l how)) := by
  have h1 := AI_mv0 (how := how) h b0 b8 hu hon hne hho
  have e9 : aMv0 M b l how 9 = M 9 := by unfold aMv0; simp only [mw_rn, ne_eq, not_false_eq_true, Nat.reduceEqDiff, Nat.reduceLT, Nat.reduceLeDiff, true_or, or_true, forall_const]
  have e19 : aMv0 M b l how 19 = M 19 := by unfold aMv0; simp only [mw_rn, ne_eq, not_false_eq_true, Nat.reduceEqDiff, Nat.reduceLT, Nat.reduceLeDiff, true_or, or_true, forall_const]
  have fin : gV mX5_startMove (d + 5) (yn (aMove M b l how 20 b = -6) (aMove M b l how)) 48 [vR 5, vI b, vI l, vI how] [] (aMove M b l how) := by
    have hN : AI (aMove M b l how) lo (-1) := by
      unfold aMove
      split
      · exact AI_reach h1 b0 b8 (by rw [e9]; exact hu) (by rw [e19]; exact hon)
      · exact AI_settle h1 b0 b8 (goal_up h1)
    have hbk := AI_bk hN b
    repeat (refine gV_s rfl (by first | exact trivial | omega) ?_)
    refine gV_i rfl (by unfold rng; omega) (fun h2 => ?_) (fun h2 => ?_)
    · repeat (refine gV_s rfl (by first | exact trivial | omega) ?_)
      exact gV_ret rfl (Or.inr rfl) ⟨rfl, Or.inl ⟨h2, rfl⟩⟩
    · repeat (refine gV_s rfl (by first | exact trivial | omega) ?_)
      exact gV_ret rfl (Or.inl rfl) ⟨rfl, Or.inr ⟨h2, rfl⟩⟩
  have mid : ∀ v : Int, v = (if how = 1 then 1 else 0) → gV mX5_startMove (d + 5) (yn (aMove M b l how 20 b = -6) (aMove M b l how)) 28 [vR 5, vI b, vI l, vI how] [vI v, vI b, vR 21] (mw M 20 b l) := by
    intro v hv
    have hv2 : v = 0 ∨ v = 1 := by rw [hv]; split; exact Or.inr rfl; exact Or.inl rfl
    refine gV_s rfl ⟨⟨b0, b8⟩, hv2⟩ ?_
    have e0 : mw (mw M 20 b l) 21 b v = aMv0 M b l how := by rw [hv]; rfl
    rw [e0]
    repeat (refine gV_s rfl (by first | exact trivial | omega) ?_)
    refine gV_i rfl (by unfold rng; omega) (fun h2 => ?_) (fun h2 => ?_)
    · have e : aMove M b l how = aReach (aMv0 M b l how) b l := by unfold aMove; rw [if_pos h2]
      repeat (refine gV_s rfl (by first | exact trivial | omega) ?_)
      refine gV_cV (ok_reach (d := d + 1) (P := fun r M' => r = none ∧ M' = aMove M b l how) h1 b0 b8 (by rw [e9]; exact hu) (by rw [e19]; exact hon) ⟨rfl, e.symm⟩) mX5_reach_ok sX5_X5_reach rfl rfl rfl rfl rfl rfl ?_
      rintro r M' ⟨rfl, rfl⟩
      refine gV_s rfl trivial ?_
      exact fin
    · have e : aMove M b l how = aSettle (aMv0 M b l how) b := by unfold aMove; rw [if_neg h2]
      repeat (refine gV_s rfl (by first | exact trivial | omega) ?_)
      refine gV_cV (ok_settle (d := d) (P := fun r M' => r = none ∧ M' = aMove M b l how) h1 b0 b8 (goal_up h1) ⟨rfl, e.symm⟩) mX5_settle_ok sX5_X5_settle rfl rfl rfl rfl rfl rfl ?_
      rintro r M' ⟨rfl, rfl⟩
      exact fin
  refine gOk_of mX5_startMove_ok (by simp) (Nat.le_of_ble_eq_true rfl) ?_
  repeat (refine gV_s rfl (by first | exact trivial | omega) ?_)
  refine gV_i rfl (by unfold rng; omega) (fun h2 => ?_) (fun h2 => ?_)
  · refine gV_s rfl trivial (gV_s rfl trivial ?_)
    exact mid 1 (by rw [if_pos h2])
  · refine gV_s rfl trivial ?_
    exact mid 0 (by rw [if_neg h2])
/-! failing -/
theorem few_loop {d : Nat} {M : Mem} {lo : Int → Int} {x : Int} {P : PV → Mem → Prop} (h : AI M lo x) (hP : P (vI (upF M (M 1 0).toNat)) M) : ∀ (n k : Nat) (z : PV), (k : Int) + n = M 1 0 →
    gV mX5_upLinkWithFewestBuckets (d + 1) P 16 [vR 5, vI (upF M k), vI (if upF M k < 0 then 9 else ct (is_ (M 19) (upF M k)) 8), vI k, z] [vI (M 1 0), vI k] M
  | 0, k, z, hk => by
    have hL := h.1.1
    have e : k = (M 1 0).toNat := by omega
    subst e
    refine gV_it rfl (by unfold rng; omega) (by omega) ?_
    repeat (refine gV_s rfl (by first | exact trivial | omega) ?_)
    exact gV_ret rfl trivial hP
  | n + 1, k, z, hk => by
    have hL := h.1.1
    have ih := few_loop (d := d) h hP n (k + 1)
    have hup := h.2.1.2.1 k
    have n1 := ct_nn (is_ (M 19) k) 8
    have n2 := ct_nn (is_ (M 19) (upF M k)) 8
    have hin := upF_in M k
    have step : upF M (k + 1) = if M 9 k = 1 ∧ (upF M k < 0 ∨ ct (is_ (M 19) k) 8 < ct (is_ (M 19) (upF M k)) 8) then (k : Int) else upF M k := rfl
    rw [step] at ih
    refine gV_in rfl (by unfold rng; omega) (by omega) ?_
    repeat (refine gV_s rfl (by first | exact trivial | omega) ?_)
    refine gV_cV (ok_howMany (d := d) (P := fun r M' => r = vI (ct (is_ (M 19) k) 8) ∧ M' = M) (by unfold rng; omega) (fun b => by have := AI_bk h b; unfold rng; omega) ⟨rfl, rfl⟩) mX0_howManyOn_ok sX5_X0_howManyOn rfl rfl rfl rfl rfl rfl ?_
    rintro r M' ⟨rfl, rfl⟩
    repeat (refine gV_s rfl (by first | exact trivial | omega) ?_)
    refine gV_i rfl (by unfold rng; omega) (fun h1 => ?_) (fun h1 => ?_)
    · rw [if_neg (fun q => by omega)] at ih
      repeat (refine gV_s rfl (by first | exact trivial | omega) ?_)
      exact ih _ (by push_cast; omega)
    · repeat (refine gV_s rfl (by first | exact trivial | omega) ?_)
      refine gV_i rfl ?_ (fun h2 => ?_) (fun h2 => ?_)
      · unfold rng; split <;> omega
      · rw [if_neg (fun q => by split at h2 <;> omega)] at ih
        repeat (refine gV_s rfl (by first | exact trivial | omega) ?_)
        exact ih _ (by push_cast; omega)
      · rw [if_pos ⟨by omega, by split at h2 <;> omega⟩, if_neg (by omega)] at ih
        repeat (refine gV_s rfl (by first | exact trivial | omega) ?_)
        exact ih _ (by push_cast; omega)
theorem ok_few {d : Nat} {M : Mem} {lo : Int → Int} {x : Int} {P : PV → Mem → Prop} (h : AI M lo x) (hP : P (vI (upF M (M 1 0).toNat)) M) : gOk mX5_upLinkWithFewestBuckets (d + 1) [vR 5] M P := by
  have hL := h.1.1
  refine gOk_of mX5_upLinkWithFewestBuckets_ok (by simp) (Nat.le_of_ble_eq_true rfl) ?_
  repeat (refine gV_s rfl (by first | exact trivial | omega) ?_)
  exact few_loop h hP (M 1 0).toNat 0 none (by omega)
theorem lose_loop {d : Nat} {S : Mem} {lo : Int → Int} {x l e : Int} {P : PV → Mem → Prop} (h : AI S lo x) (l0 : 0 ≤ l) (l4 : l < 4) (he : e = S 17 l) {R9 : Int → Int} (hP : ∀ T, Ex [9] T (aLose S l) → T 9 = R9 → P (vI (S 17 l - S 15 l)) T) :
    ∀ (n j : Nat) (Mj : Mem) (z : PV), j + n = loN S l → Ex [9, 15, 16] Mj (aLoK S l j) → Mj 15 = S 15 → Mj 16 = S 16 → Mj 9 = R9 →
      gV mX5_loseLetters (d + 1) P 26 [vR 5, vI l, vI (S 15 l), vI e, vI (S 15 l + j), z] [vI e, vI (S 15 l + j)] Mj
  | 0, j, Mj, z, hj, hE, e15, e16, e9r => by
    have hq := (h.2.2.2.2.2.2.2.2.2.2.2.1 l l0 l4).1
    have h5 := h.1.2.2.1
    have h6 := (h.2.2.2.2.2.2.2.2.2.2.1 l l0 l4).1
    have h7 := ct_nn (fun j => decide (S 35 j = l)) (S 4 0).toNat
    have hjN : j = loN S l := by omega
    have hjv : (j : Int) = S 17 l - S 15 l := by rw [hjN]; unfold loN; omega
    refine gV_it rfl (by unfold rng; omega) (by omega) ?_
    repeat (refine gV_s rfl (by first | exact trivial | omega) ?_)
    refine gV_ret rfl trivial ?_
    have hm : Ex [9] (mw (mw Mj 15 l e) 16 l e) (aLose S l) := by
      unfold aLose
      rw [← hjN]
      intro r hr
      have hr : r ≠ 9 := by simpa using hr
      by_cases a : r = 16
      · subst a
        rw [mw_rs, mw_rn _ _ _ (by decide), e16, aLoK_16 hq.2.1, he]
        congr 1
        split <;> omega
      · by_cases b : r = 15
        · subst b
          rw [mw_rn _ _ _ (by decide), mw_rs, e15, aLoK_15, he]
          congr 1
          omega
        · rw [mw_rn _ _ _ a, mw_rn _ _ _ b]
          exact hE r (by simp [a, b, hr])
    have hm9 : mw (mw Mj 15 l e) 16 l e 9 = R9 := by rw [mw_rn _ _ _ (by decide), mw_rn _ _ _ (by decide)]; exact e9r
    have := hP _ hm hm9
    rw [← he] at this
    exact this
  | n + 1, j, Mj, z, hj, hE, e15, e16, e9r => by
    have hq := (h.2.2.2.2.2.2.2.2.2.2.2.1 l l0 l4).1
    have h5 := h.1.2.2.1
    have h6 := (h.2.2.2.2.2.2.2.2.2.2.1 l l0 l4).1
    have h7 := ct_nn (fun j => decide (S 35 j = l)) (S 4 0).toNat
    have hN : ((loN S l : Nat) : Int) = S 17 l - S 15 l := by unfold loN; omega
    have hS := AI_loK h l0 l4 j (by omega)
    have hSo : ∀ r, r ≠ 34 → r ≠ 41 → r ≠ 39 → r ≠ 28 → r ≠ 16 → r ≠ 15 → aLoK S l j r = S r := fun r a b c d e f => aLoK_o S l a b c d e f j
    have hrow : Mj (9 + 2 + l.toNat) = aLoK S l j (11 + l.toNat) := hE (11 + l.toNat) (by simp; omega)
    have hS15 : aLoK S l j 15 l = S 15 l + j := by rw [aLoK_15, up1_s]
    obtain ⟨g1, g2, g3, g4⟩ := (hS.2.2.2.2.2.2.2.2.2.2.2.1 l l0 l4).2.1 (S 15 l + j) (by omega) (by rw [hSo 17 (by decide) (by decide) (by decide) (by decide) (by decide) (by decide)]; omega)
    have g5 := g1.2.1
    rw [hSo 4 (by decide) (by decide) (by decide) (by decide) (by decide) (by decide)] at g5
    have hb1 : 0 ≤ Mj (9 + 2 + l.toNat) (S 15 l + j) ∧ Mj (9 + 2 + l.toNat) (S 15 l + j) < 400 := by
      rw [hrow]
      exact ⟨g1.1, Int.lt_of_lt_of_le g5 h5.2⟩
    have hst : 0 ≤ Mj 34 (Mj (9 + 2 + l.toNat) (S 15 l + j)) ∧ Mj 34 (Mj (9 + 2 + l.toNat) (S 15 l + j)) ≤ 5 := by
      rw [hE 34 (by simp)]
      exact (hS.2.2.2.2.2.2.1 _).2.2.2.1
    refine gV_in rfl (by unfold rng; omega) (by omega) ?_
    repeat (refine gV_s rfl (by first | exact trivial | omega) ?_)
    refine gV_iald rfl (shp_row l0 l4) (by decide) ⟨by omega, by omega⟩ ?_
    generalize hi : Mj (9 + 2 + l.toNat) (S 15 l + j) = i at hb1 hst
    repeat (refine gV_s rfl (by first | exact trivial | omega) ?_)
    refine gV_cV (ok_turn (d := d) (P := fun r M' => r = none ∧ M' = aTurn Mj i 5) hb1.1 hb1.2 (by omega) hst ⟨rfl, rfl⟩) mX2_turn_ok sX5_X2_turn rfl rfl rfl rfl rfl rfl ?_
    rintro r M' ⟨rfl, rfl⟩
    have hfl : 0 ≤ Mj 31 i ∧ Mj 31 i < 16 := by
      rw [hE 31 (by simp)]
      have := (hS.2.2.2.2.2.2.1 i).1
      exact ⟨this.1, this.2.1⟩
    have et5 : aTurn Mj i 5 5 = Mj 5 := aTurn_o _ _ _ (by decide) (by decide)
    have et31 : mw (aTurn Mj i 5) 39 i (aTurn Mj i 5 5 0) 31 = Mj 31 := by rw [mw_rn _ _ _ (by decide), aTurn_o _ _ _ (by decide) (by decide)]
    repeat (refine gV_s rfl (by first | exact trivial | omega) ?_)
    rw [et31]
    repeat (refine gV_s rfl (by first | exact trivial | omega) ?_)
    have ih := lose_loop (d := d) h l0 l4 he hP n (j + 1) (mw (mw (aTurn Mj i 5) 39 i (aTurn Mj i 5 5 0)) 28 (Mj 31 i) (mw (aTurn Mj i 5) 39 i (aTurn Mj i 5 5 0) 28 (Mj 31 i) + 1)) (vI i) (by omega) ?_ ?_ ?_ ?_
    · have e9 : S 15 l + ((j + 1 : Nat) : Int) = S 15 l + j + 1 := by push_cast; omega
      rw [e9] at ih
      exact ih
    · have hqi : qr (aLoK S l j) l (aLoK S l j 15 l) = i := by
        rw [hS15, ← hi, hrow]
      rw [aLoK]
      unfold aLo
      rw [hqi]
      refine Ex.skip (Ex.skip (Ex.w (Ex.w (Ex.turn hE (by decide) (by decide) rfl) rfl ?_) ?_ ?_) (by decide)) (by decide)
      · rw [et5, hE 5 (by decide)]
      · rw [hE 31 (by decide)]
      · rw [mw_rn _ _ _ (by decide), aTurn_o _ _ _ (by decide) (by decide), hE 28 (by decide), hE 31 (by decide)]
    · rw [mw_rn _ _ _ (by decide), mw_rn _ _ _ (by decide), aTurn_o _ _ _ (by decide) (by decide)]
      exact e15
    · rw [mw_rn _ _ _ (by decide), mw_rn _ _ _ (by decide), aTurn_o _ _ _ (by decide) (by decide)]
      exact e16
    · rw [mw_rn _ _ _ (by decide), mw_rn _ _ _ (by decide), aTurn_o _ _ _ (by decide) (by decide)]
      exact e9r
theorem ok_lose {d : Nat} {S M : Mem} {lo : Int → Int} {x l : Int} {P : PV → Mem → Prop} (h : AI S lo x) (hE : Ex [9] M S) (l0 : 0 ≤ l) (l4 : l < 4) (hP : ∀ T, Ex [9] T (aLose S l) → T 9 = M 9 → P (vI (S 17 l - S 15 l)) T) : gOk mX5_loseLetters (d + 1) [vR 5, vI l] M P := by
  refine gOk_of mX5_loseLetters_ok (by simp) (Nat.le_of_ble_eq_true rfl) ?_
  repeat (refine gV_s rfl (by first | exact trivial | omega) ?_)
  rw [hE 15 (by decide), hE 17 (by decide)]
  have := lose_loop (d := d) (P := P) h l0 l4 rfl hP (loN S l) 0 M none (by omega) (fun r hr => hE r (by simp at hr; simp [hr])) (hE 15 (by decide)) (hE 16 (by decide)) rfl
  rw [show S 15 l + ((0 : Nat) : Int) = S 15 l by omega] at this
  exact this
theorem can_loop {d : Nat} {S : Mem} {lo : Int → Int} {l : Int} {w : PV} {P : PV → Mem → Prop} (h : AI S lo l) (l0 : 0 ≤ l) (l4 : l < 4) (hd : S 9 l = 0) (kk : ∀ z : Int, gV mX5_breakLink (d + 5) P 49 [vR 5, vI l, w, vI z] [] (aCan S l 8)) : ∀ (n k : Nat), k + n = 8 → gV mX5_breakLink (d + 5) P 21 [vR 5, vI l, w, vI k] [vI 8, vI k] (aCan S l k)
  | 0, k, hk => by
    have e : k = 8 := by omega
    subst e
    exact gV_it rfl (by unfold rng; omega) (show (8 : Int) ≤ _ by omega) (kk _)
  | n + 1, k, hk => by
    obtain ⟨i1, i2, i3, i4, i5, i6⟩ := AI_can h l0 hd k (by omega)
    have hbk := AI_bk i1 k
    have hJ := i1.2.2.1 k
    have ih := can_loop h l0 l4 hd kk n (k + 1) (by omega)
    have step : aCan S l (k + 1) = if aCan S l k 20 k = l then aCancel (aCan S l k) k else aCan S l k := rfl
    rw [step] at ih
    refine gV_in rfl (by unfold rng; omega) (show ¬ (8 : Int) ≤ _ by omega) ?_
    repeat (refine gV_s rfl (by first | exact trivial | omega) ?_)
    refine gV_i rfl (by unfold rng; omega) (fun h1 => ?_) (fun h1 => ?_)
    · rw [if_pos h1] at ih
      have hu : aCan S l k 19 k = -6 ∨ aCan S l k 9 (aCan S l k 19 k) = 1 := by
        rcases hJ.1 with q | ⟨q1, q2, q3 | q3⟩
        · exact Or.inl q
        · exact Or.inr q3
        · rcases hJ.2.1 with w | w
          · omega
          · have := w.2.2.2.2
            omega
      repeat (refine gV_s rfl (by first | exact trivial | omega) ?_)
      refine gV_cV (ok_cancel (d := d + 1) (P := fun r M' => (∃ v, r = vI v) ∧ M' = aCancel (aCan S l k) k) i1 (by omega) (by omega) hu ⟨⟨_, rfl⟩, rfl⟩) mX5_cancelMove_ok sX5_X5_cancelMove rfl rfl rfl rfl rfl rfl ?_
      rintro r M' ⟨⟨v, rfl⟩, rfl⟩
      repeat (refine gV_s rfl (by first | exact trivial | omega) ?_)
      exact ih
    · rw [if_neg h1] at ih
      repeat (refine gV_s rfl (by first | exact trivial | omega) ?_)
      exact ih
theorem mvs_loop {d : Nat} {S : Mem} {lo : Int → Int} {l w : Int} {P : PV → Mem → Prop} (h : AI S lo l) (l0 : 0 ≤ l) (l4 : l < 4) (hd : S 9 l = 0) (ht : ∀ b, 0 ≤ b → b < 8 → S 20 b ≠ l) (hP : P (vI w) (aMvs S l 8)) : ∀ (n k : Nat), k + n = 8 → gV mX5_breakLink (d + 5) P 54 [vR 5, vI l, vI w, vI k] [vI 8, vI k] (aMvs S l k)
  | 0, k, hk => by
    have e : k = 8 := by omega
    subst e
    refine gV_it rfl (by unfold rng; omega) (show (8 : Int) ≤ _ by omega) ?_
    repeat (refine gV_s rfl (by first | exact trivial | omega) ?_)
    exact gV_ret rfl trivial hP
  | n + 1, k, hk => by
    obtain ⟨i1, i2, i3, i4, i5, i6⟩ := AI_mvs h l0 hd ht k (by omega)
    have hbk := AI_bk i1 k
    have ih := mvs_loop (d := d) h l0 l4 hd ht hP n (k + 1) (by omega)
    have step : aMvs S l (k + 1) = if aMvs S l k 19 k = l then aMv1 (aMvs S l k) k else aMvs S l k := rfl
    rw [step] at ih
    refine gV_in rfl (by unfold rng; omega) (show ¬ (8 : Int) ≤ _ by omega) ?_
    repeat (refine gV_s rfl (by first | exact trivial | omega) ?_)
    refine gV_i rfl (by unfold rng; omega) (fun h1 => ?_) (fun h1 => ?_)
    · rw [if_pos h1] at ih
      generalize hT : aMvs S l k = T at *
      have hT1 := AI_to0 (b := k) i1
      have e1 : mw T 20 k (-6) 1 = T 1 := mw_rn _ _ _ (by decide)
      have hL := i1.1.1
      repeat (refine gV_s rfl (by first | exact trivial | omega) ?_)
      refine gV_cV (ok_few (d := d + 3) (P := fun r M' => r = vI (upF (mw T 20 k (-6)) (mw T 20 k (-6) 1 0).toNat) ∧ M' = mw T 20 k (-6)) hT1 ⟨rfl, rfl⟩) mX5_upLinkWithFewestBuckets_ok sX5_X5_upLinkWithFewestBuckets rfl rfl rfl rfl rfl rfl ?_
      rintro r M' ⟨rfl, rfl⟩
      have hk2 := upF_in (mw T 20 k (-6)) (mw T 20 k (-6) 1 0).toNat
      have eM : aMv1 T k = aSettle (mw (mw (mw T 20 k (-6)) 19 k (upF (mw T 20 k (-6)) (mw T 20 k (-6) 1 0).toNat)) 21 k (if upF (mw T 20 k (-6)) (mw T 20 k (-6) 1 0).toNat = -6 then 0 else 1)) k := rfl
      have hA := (AI_mv1 i1 (b := k) (by omega) (by omega) l0 (by rw [i2]; exact hd) h1)
      rw [eM] at ih hA
      generalize hK : upF (mw T 20 k (-6)) (mw T 20 k (-6) 1 0).toNat = q at *
      rw [e1] at hk2
      have t19 : mw (mw T 20 k (-6)) 19 k q 19 k = q := by rw [mw_rs, up1_s]
      have fin : ∀ v : Int, v = (if q = -6 then 0 else 1) → gV mX5_breakLink (d + 5) P 124 [vR 5, vI l, vI w, vI k] [vI v, vI k, vR 21] (mw (mw T 20 k (-6)) 19 k q) := by
        intro v hv
        have hv2 : v = 0 ∨ v = 1 := by rw [hv]; split; exact Or.inl rfl; exact Or.inr rfl
        refine gV_s rfl ⟨⟨by omega, by omega⟩, hv2⟩ ?_
        rw [hv]
        have hAA := AI_mv2 i1 (b := k) (by omega) (by omega) l0 (by rw [i2]; exact hd) (k := q) (by rw [← hK, e1])
        repeat (refine gV_s rfl (by first | exact trivial | omega) ?_)
        refine gV_cV (ok_settle (d := d) (P := fun r M' => r = none ∧ M' = aSettle (mw (mw (mw T 20 k (-6)) 19 k q) 21 k (if q = -6 then 0 else 1)) k) hAA.1 (by omega) (by omega) hAA.2 ⟨rfl, rfl⟩) mX5_settle_ok sX5_X5_settle rfl rfl rfl rfl rfl rfl ?_
        rintro r M' ⟨rfl, rfl⟩
        repeat (refine gV_s rfl (by first | exact trivial | omega) ?_)
        exact ih
      repeat (refine gV_s rfl (by first | exact trivial | omega) ?_)
      rw [t19]
      refine gV_i rfl (by unfold rng; omega) (fun h2 => ?_) (fun h2 => ?_)
      · refine gV_s rfl trivial ?_
        exact fin 0 (by rw [if_pos h2])
      · refine gV_s rfl trivial (gV_s rfl trivial ?_)
        exact fin 1 (by rw [if_neg h2])
    · rw [if_neg h1] at ih
      repeat (refine gV_s rfl (by first | exact trivial | omega) ?_)
      exact ih
theorem ok_break {d : Nat} {M : Mem} {lo : Int → Int} {l : Int} {P : PV → Mem → Prop} (h : AI M lo (-1)) (hu : M 9 l = 1) (hP : P (vI (M 17 l - M 15 l)) (aFail M l)) : gOk mX5_breakLink (d + 5) [vR 5, vI l] M P := by
  obtain ⟨l0, lL, l4⟩ := AI_up h hu
  have h1 := AI_down h hu
  have e9 : aLose (mw M 9 l 0) l 9 l = 0 := by rw [mw_lose, mw_rs, up1_s]
  obtain ⟨c1, c2, c3, c4, c5, c6⟩ := AI_can h1 l0 e9 8 (by omega)
  refine gOk_of mX5_breakLink_ok (by simp) (Nat.le_of_ble_eq_true rfl) ?_
  repeat (refine gV_s rfl (by first | exact trivial | omega) ?_)
  refine gV_cV (ok_lose (d := d + 3) (P := fun r M' => r = vI (M 17 l - M 15 l) ∧ M' = aLose (mw M 9 l 0) l) (M := mw M 9 l 0) h (Ex.skip1 Ex.rf (by decide)) l0 l4 (fun T hT h9 => ⟨rfl, ?_⟩)) mX5_loseLetters_ok sX5_X5_loseLetters rfl rfl rfl rfl rfl rfl ?_
  · rw [mw_lose]
    refine mem_ext (fun r => ?_)
    by_cases a : r = 9
    · subst a
      rw [h9, mw_rs, mw_rs]
      congr 1
      exact (aLoK_o M l (by decide) (by decide) (by decide) (by decide) (by decide) (by decide) _).symm
    · rw [mw_rn _ _ _ a]
      exact hT r (by simp [a])
  · rintro r M' ⟨rfl, rfl⟩
    repeat (refine gV_s rfl (by first | exact trivial | omega) ?_)
    refine can_loop (d := d) h1 l0 l4 e9 (fun z => ?_) 8 0 rfl
    repeat (refine gV_s rfl (by first | exact trivial | omega) ?_)
    exact mvs_loop c1 l0 l4 (by rw [c3]; exact e9) (fun b b0 b8 => c6 b b0 (by omega)) hP 8 0 rfl
