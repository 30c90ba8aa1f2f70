/-! The invariant through leaving, arriving, coming out. -/
set_option maxHeartbeats 2000000 in
theorem AI_leave1 {S : Mem} {lo : Int → Int} {x l : Int} (h : AI S lo x) (hu : S 9 l = 1) (hq1 : S 16 l < S 17 l) (hlo : lo l < S 5 0 + S 8 l) : AI (aLeave1 S l) lo x := by
  obtain ⟨l0, lL, l4⟩ := AI_up h hu
  obtain ⟨ha, hl, hb, hn, hh, hf, ht, ks, kh, kf, kl, hq, hi, ho⟩ := h
  obtain ⟨⟨q1, q2, q3⟩, q4, q5, q6, q7⟩ := hq l l0 l4
  obtain ⟨⟨i0, i1, i2⟩, -, -, i3⟩ := q4 (S 16 l) (by omega) hq1
  have hs := i3 (Int.le_refl _)
  have hdl := hl.2.2 l
  have eo : ∀ r : Nat, r ≠ 37 → r ≠ 38 → r ≠ 34 → r ≠ 41 → r ≠ 16 → r ≠ 18 → aLeave1 S l r = S r := fun r q1 q2 q3 q4 q5 q6 => by
    unfold aLeave1
    rw [mw_rn _ _ _ q6, mw_rn _ _ _ q5, aTurn_o _ _ _ q3 q4, mw_rn _ _ _ q2, mw_rn _ _ _ q1]
  have e34 : aLeave1 S l 34 = up1 (S 34) (qr S l (S 16 l)) 2 := by
    unfold aLeave1
    rw [mw_rn _ _ _ (by decide), mw_rn _ _ _ (by decide), aTurn_34, mw_rn _ _ _ (by decide), mw_rn _ _ _ (by decide)]
  have e38 : aLeave1 S l 38 = up1 (S 38) (qr S l (S 16 l)) (S 5 0 + S 8 l) := by
    unfold aLeave1
    rw [mw_rn _ _ _ (by decide), mw_rn _ _ _ (by decide), aTurn_o _ _ _ (by decide) (by decide), mw_rs, mw_rn _ _ _ (by decide)]
  have e41 : aLeave1 S l 41 = up1 (up1 (S 41) (S 34 (qr S l (S 16 l))) (S 41 (S 34 (qr S l (S 16 l))) - 1)) 2 (up1 (S 41) (S 34 (qr S l (S 16 l))) (S 41 (S 34 (qr S l (S 16 l))) - 1) 2 + 1) := by
    unfold aLeave1
    rw [mw_rn _ _ _ (by decide), mw_rn _ _ _ (by decide), aTurn_41]
    simp only [mw_rn _ _ _ (show (34 : Nat) ≠ 37 by decide), mw_rn _ _ _ (show (34 : Nat) ≠ 38 by decide), mw_rn _ _ _ (show (41 : Nat) ≠ 37 by decide), mw_rn _ _ _ (show (41 : Nat) ≠ 38 by decide)]
  have e16 : aLeave1 S l 16 = up1 (S 16) l (S 16 l + 1) := by
    unfold aLeave1
    rw [mw_rn _ _ _ (by decide), mw_rs, aTurn_o _ _ _ (by decide) (by decide), mw_rn _ _ _ (by decide), mw_rn _ _ _ (by decide)]
  have eq : ∀ l' p, 0 ≤ l' → l' < 4 → qr (aLeave1 S l) l' p = qr S l' p := fun l' p a b => by
    show aLeave1 S l (11 + l'.toNat) p = _
    rw [eo _ (by omega) (by omega) (by omega) (by omega) (by omega) (by omega)]
  unfold AI Ja
  simp only [eo, e34, e38, e41, e16, ne_eq, not_false_eq_true, Nat.reduceEqDiff, Nat.reduceLT, Nat.reduceLeDiff, true_or, or_true, forall_const]
  refine ⟨ha, hl, hb, hn, Jh_turn hh (by decide), hf, Jt_turn (Jt_ar ht (by have := ha.2.2.2.1; omega)) (by decide), Ks_turn ks i0 i1, Kh_turn kh i0 i1 (by omega) (by decide), Kf_turn kf i0 i1 (by omega) (by decide), Kl_leave kl i0 i1 hs i2, Jq_rw (Jq_leave hq l0 l4 hq1 hlo (by omega)) eq, Ji_rw (Ji_turn hi (by omega) (by decide)) ha.1.2 eq, Jo_ins ho ?_⟩
  rw [turn_val, hs]
  simp
theorem aNote_27 (S : Mem) (f p : Int) : aNote S f p 27 = up1 (S 27) f (S 27 f + 1) := by
  unfold aNote
  rw [mw_rn _ _ _ (by decide)]
  split
  · rw [mw_rn _ _ _ (by decide), mw_rs]
  · rw [mw_rs]
theorem aNote_29 (S : Mem) (f p : Int) : aNote S f p 29 = up1 (S 29) f p := by
  unfold aNote
  rw [mw_rs]
  split
  · rw [mw_rn _ _ _ (by decide), mw_rn _ _ _ (by decide)]
  · rw [mw_rn _ _ _ (by decide)]
theorem aNote_30 (S : Mem) (f p : Int) : aNote S f p 30 = if p < S 29 f then up1 (S 30) f 1 else S 30 := by
  unfold aNote
  rw [mw_rn _ _ _ (by decide), mw_rn _ _ _ (by decide)]
  split
  · rw [mw_rs, mw_rn _ _ _ (by decide)]
  · rw [mw_rn _ _ _ (by decide)]
theorem aNote_o (S : Mem) (f p : Int) {r : Nat} (h1 : r ≠ 27) (h2 : r ≠ 29) (h3 : r ≠ 30) : aNote S f p r = S r := by
  unfold aNote
  rw [mw_rn _ _ _ h2]
  split
  · rw [mw_rn _ _ _ h3, mw_rn _ _ _ h1]
  · rw [mw_rn _ _ _ h1]
theorem aLetOut_o (S : Mem) (i : Int) {r : Nat} (h1 : r ≠ 27) (h2 : r ≠ 29) (h3 : r ≠ 30) (h4 : r ≠ 39) (h5 : r ≠ 34) (h6 : r ≠ 41) (h7 : r ≠ 40) : aLetOut S i r = S r := by
  unfold aLetOut
  rw [aNote_o _ _ _ h1 h2 h3, mw_rn _ _ _ h4, aTurn_o _ _ _ h5 h6, mw_rn _ _ _ h7]
theorem aLetOut_34 (S : Mem) (i : Int) : aLetOut S i 34 = up1 (S 34) i 4 := by
  unfold aLetOut
  rw [aNote_o _ _ _ (by decide) (by decide) (by decide), mw_rn _ _ _ (by decide), aTurn_34, mw_rn _ _ _ (by decide)]
theorem aLetOut_41 (S : Mem) (i : Int) : aLetOut S i 41 = up1 (up1 (S 41) (S 34 i) (S 41 (S 34 i) - 1)) 4 (up1 (S 41) (S 34 i) (S 41 (S 34 i) - 1) 4 + 1) := by
  unfold aLetOut
  rw [aNote_o _ _ _ (by decide) (by decide) (by decide), mw_rn _ _ _ (by decide), aTurn_41]
  simp only [mw_rn _ _ _ (show (34 : Nat) ≠ 40 by decide), mw_rn _ _ _ (show (41 : Nat) ≠ 40 by decide)]
theorem aLetOut_40 (S : Mem) (i : Int) : aLetOut S i 40 = up1 (S 40) (S 41 4) i := by
  unfold aLetOut
  rw [aNote_o _ _ _ (by decide) (by decide) (by decide), mw_rn _ _ _ (by decide), aTurn_o _ _ _ (by decide) (by decide), mw_rs]
theorem aLetOut_39 (S : Mem) (i : Int) : aLetOut S i 39 = up1 (S 39) i (S 5 0) := by
  unfold aLetOut
  rw [aNote_o _ _ _ (by decide) (by decide) (by decide), mw_rs, aTurn_o _ _ _ (by decide) (by decide), mw_rn _ _ _ (by decide)]
theorem aLetOut_27 (S : Mem) (i : Int) : aLetOut S i 27 = up1 (S 27) (S 31 i) (S 27 (S 31 i) + 1) := by
  unfold aLetOut
  rw [aNote_27, mw_rn _ _ _ (by decide), aTurn_o _ _ _ (by decide) (by decide), mw_rn _ _ _ (by decide)]
theorem aLetOut_29 (S : Mem) (i : Int) : aLetOut S i 29 = up1 (S 29) (S 31 i) (S 32 i) := by
  unfold aLetOut
  rw [aNote_29, mw_rn _ _ _ (by decide), aTurn_o _ _ _ (by decide) (by decide), mw_rn _ _ _ (by decide)]
theorem aLetOut_30 (S : Mem) (i : Int) : aLetOut S i 30 = if S 32 i < S 29 (S 31 i) then up1 (S 30) (S 31 i) 1 else S 30 := by
  unfold aLetOut
  rw [aNote_30]
  simp only [mw_rn _ _ _ (show (29 : Nat) ≠ 39 by decide), aTurn_o _ _ _ (show (29 : Nat) ≠ 34 by decide) (show (29 : Nat) ≠ 41 by decide), mw_rn _ _ _ (show (29 : Nat) ≠ 40 by decide), mw_rn _ _ _ (show (30 : Nat) ≠ 39 by decide), aTurn_o _ _ _ (show (30 : Nat) ≠ 34 by decide) (show (30 : Nat) ≠ 41 by decide), mw_rn _ _ _ (show (30 : Nat) ≠ 40 by decide)]
theorem ins4 {S : Mem} {i : Int} (hs : S 34 i ≠ 4) : up1 (up1 (S 41) (S 34 i) (S 41 (S 34 i) - 1)) 4 (up1 (S 41) (S 34 i) (S 41 (S 34 i) - 1) 4 + 1) 4 = S 41 4 + 1 := by
  rw [turn_val, if_neg (Ne.symm hs), if_pos rfl]
  omega
/-- a waiting letter comes out -/
theorem AI_out {S : Mem} {lo : Int → Int} {x i : Int} (h : AI S lo x) (i0 : 0 ≤ i) (i1 : i < S 4 0) (hs : S 34 i = 3) : AI (aLetOut S i) lo x := by
  obtain ⟨ha, hl, hb, hn, hh, hf, ht, ks, kh, kf, kl, hq, hi, ho⟩ := h
  have eq : ∀ l' p, 0 ≤ l' → l' < 4 → qr (aLetOut S i) l' p = qr S l' p := fun l' p a b => by
    show aLetOut S i (11 + l'.toNat) p = _
    rw [aLetOut_o _ _ (by omega) (by omega) (by omega) (by omega) (by omega) (by omega) (by omega)]
  have h40 : 0 ≤ S 41 4 := by rw [ks 4 (by decide) (by decide)]; exact (ct_nn _ _).1
  have eo : ∀ r : Nat, r ≠ 27 → r ≠ 29 → r ≠ 30 → r ≠ 39 → r ≠ 34 → r ≠ 41 → r ≠ 40 → aLetOut S i r = S r := fun r a b c d e f g => aLetOut_o S i a b c d e f g
  unfold AI Ja
  simp only [eo, aLetOut_34, aLetOut_41, aLetOut_40, aLetOut_27, aLetOut_29, aLetOut_30, ne_eq, not_false_eq_true, Nat.reduceEqDiff, Nat.reduceLT, Nat.reduceLeDiff, true_or, or_true, forall_const]
  exact ⟨ha, hl, hb, hn, Jh_turn hh (by decide), hf, Jt_turn ht (by decide), Ks_turn ks i0 i1, Kh_turn kh i0 i1 (by omega) (by decide), Kf_out kf i0 i1 (by omega), Kl_turn kl i0 i1 (by omega) (by decide), Jq_rw (Jq_out hq (by omega) (by decide)) eq, Ji_rw (Ji_turn hi (by omega) (by decide)) ha.1.2 eq, Jo_out ho ⟨i0, i1⟩ h40 (ins4 (by omega)) (ht i).2.1 ((ht i).1.2.2 i0 i1)⟩
set_option maxHeartbeats 2000000 in
theorem AI_arr1 {S : Mem} {lo : Int → Int} {x l : Int} (h : AI S lo x) (l0 : 0 ≤ l) (l4 : l < 4) (hq1 : S 15 l < S 16 l) : AI (aArr1 S l) lo x := by
  obtain ⟨ha, hl, hb, hn, hh, hf, ht, ks, kh, kf, kl, hq, hi, ho⟩ := h
  obtain ⟨⟨q1, q2, q3⟩, q4, q5, q6, q7⟩ := hq l l0 l4
  obtain ⟨⟨i0, i1, i2⟩, -, i3, -⟩ := q4 (S 15 l) (by omega) (by omega)
  have hs := (i3 (Int.le_refl _) hq1).1
  have h40 : 0 ≤ S 41 4 := by rw [ks 4 (by decide) (by decide)]; exact (ct_nn _ _).1
  unfold aArr1
  split
  · have eo : ∀ r : Nat, r ≠ 27 → r ≠ 29 → r ≠ 30 → r ≠ 39 → r ≠ 34 → r ≠ 41 → r ≠ 40 → aLetOut S (qr S l (S 15 l)) r = S r := fun r a b c d e f g => aLetOut_o S _ a b c d e f g
    have eq : ∀ l' p, 0 ≤ l' → l' < 4 → qr (mw (aLetOut S (qr S l (S 15 l))) 15 l (S 15 l + 1)) l' p = qr S l' p := fun l' p a b => by
      rw [mwq (by omega) _ _ a b]
      show aLetOut S _ (11 + l'.toNat) p = _
      rw [aLetOut_o _ _ (by omega) (by omega) (by omega) (by omega) (by omega) (by omega) (by omega)]
    unfold AI Ja
    simp only [mw_rs, mw_rn, eo, aLetOut_34, aLetOut_41, aLetOut_40, aLetOut_27, aLetOut_29, aLetOut_30, ne_eq, not_false_eq_true, Nat.reduceEqDiff, Nat.reduceLT, Nat.reduceLeDiff, true_or, or_true, forall_const]
    exact ⟨ha, hl, hb, hn, Jh_turn hh (by decide), hf, Jt_turn ht (by decide), Ks_turn ks i0 i1, Kh_turn kh i0 i1 (by omega) (by decide), Kf_out kf i0 i1 (by omega), Kl_arr kl i0 i1 hs (by decide) i2, Jq_rw (Jq_arr hq l0 l4 hq1 (by decide)) eq, Ji_rw (Ji_turn hi (by omega) (by decide)) ha.1.2 eq, Jo_out ho ⟨i0, i1⟩ h40 (ins4 (by omega)) (ht _).2.1 ((ht _).1.2.2 i0 i1)⟩
  · have eo : ∀ r : Nat, r ≠ 34 → r ≠ 41 → aTurn S (qr S l (S 15 l)) 3 r = S r := fun r a b => aTurn_o S _ _ a b
    have eq : ∀ l' p, 0 ≤ l' → l' < 4 → qr (mw (aTurn S (qr S l (S 15 l)) 3) 15 l (S 15 l + 1)) l' p = qr S l' p := fun l' p a b => by
      rw [mwq (by omega) _ _ a b, aTurnq _ _ a b]
    unfold AI Ja
    simp only [mw_rs, mw_rn, eo, aTurn_34, aTurn_41, ne_eq, not_false_eq_true, Nat.reduceEqDiff, Nat.reduceLT, Nat.reduceLeDiff, true_or, or_true, forall_const]
    refine ⟨ha, hl, hb, hn, Jh_turn hh (by decide), hf, Jt_turn ht (by decide), Ks_turn ks i0 i1, Kh_turn kh i0 i1 (by omega) (by decide), Kf_turn kf i0 i1 (by omega) (by decide), Kl_arr kl i0 i1 hs (by decide) i2, Jq_rw (Jq_arr hq l0 l4 hq1 (by decide)) eq, Ji_rw (Ji_turn hi (by omega) (by decide)) ha.1.2 eq, Jo_ins ho ?_⟩
    rw [turn_val, hs]
    simp
