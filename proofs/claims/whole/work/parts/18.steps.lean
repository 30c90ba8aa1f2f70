/-! The invariant through the small steps. -/
theorem Jq_rw {n tm : Int} {lo st lk ar dl up ws qs qe : Int → Int} {rw rw' : Int → Int → Int} (h : Jq n tm lo st lk ar dl up ws qs qe rw) (hr : ∀ l p, 0 ≤ l → l < 4 → rw' l p = rw l p) : Jq n tm lo st lk ar dl up ws qs qe rw' := by
  intro l a b
  have h1 := h l a b
  simp only [hr _ _ a b]
  exact h1
theorem Ji_rw {n L : Int} {st lk qe : Int → Int} {rw rw' : Int → Int → Int} (h : Ji n L st lk qe rw) (hL : L ≤ 4) (hr : ∀ l p, 0 ≤ l → l < 4 → rw' l p = rw l p) : Ji n L st lk qe rw' := by
  intro i a b
  rcases h i a b with q | ⟨q1, q2, q3, p, q4, q5, q6⟩
  · exact Or.inl q
  · exact Or.inr ⟨q1, q2, q3, p, q4, q5, by rw [hr _ _ q1 (by omega)]; exact q6⟩
/-- rows of a queued letter -/
theorem aEnq_o (S : Mem) (i l : Int) {r : Nat} (h1 : r ≠ 17) (h2 : r ≠ 34) (h3 : r ≠ 35) (h4 : r ≠ 41) (h5 : r ≠ 11 + l.toNat) : aEnq S i l r = S r := by
  unfold aEnq
  rw [aTurn_o _ _ _ h2 h4, mw_rn _ _ _ h3, mw_rn _ _ _ h1, mw_rn _ _ _ h5]
theorem aEnq_17 (S : Mem) (i : Int) {l : Int} (hl : l < 4) : aEnq S i l 17 = up1 (S 17) l (S 17 l + 1) := by
  unfold aEnq
  rw [aTurn_o _ _ _ (by decide) (by decide), mw_rn _ _ _ (by decide), mw_rs, mw_rn _ _ _ (by omega)]
theorem aEnq_35 (S : Mem) (i : Int) {l : Int} (hl : l < 4) : aEnq S i l 35 = up1 (S 35) i l := by
  unfold aEnq
  rw [aTurn_o _ _ _ (by decide) (by decide), mw_rs, mw_rn _ _ _ (by decide), mw_rn _ _ _ (by omega)]
theorem aEnq_34 (S : Mem) (i : Int) {l : Int} (hl : l < 4) : aEnq S i l 34 = up1 (S 34) i 1 := by
  unfold aEnq
  rw [aTurn_34, mw_rn _ _ _ (by decide), mw_rn _ _ _ (by decide), mw_rn _ _ _ (by omega)]
theorem aEnq_41 (S : Mem) (i : Int) {l : Int} (hl : l < 4) : aEnq S i l 41 = up1 (up1 (S 41) (S 34 i) (S 41 (S 34 i) - 1)) 1 (up1 (S 41) (S 34 i) (S 41 (S 34 i) - 1) 1 + 1) := by
  unfold aEnq
  rw [aTurn_41]
  simp only [mw_rn _ _ _ (show (34 : Nat) ≠ 35 by decide), mw_rn _ _ _ (show (34 : Nat) ≠ 17 by decide), mw_rn _ _ _ (show (34 : Nat) ≠ 11 + l.toNat by omega), mw_rn _ _ _ (show (41 : Nat) ≠ 35 by decide), mw_rn _ _ _ (show (41 : Nat) ≠ 17 by decide), mw_rn _ _ _ (show (41 : Nat) ≠ 11 + l.toNat by omega)]
theorem aEnq_qr (S : Mem) (i : Int) {l : Int} (h0 : 0 ≤ l) (hl : l < 4) (l' p : Int) (h0' : 0 ≤ l') (hl' : l' < 4) : qr (aEnq S i l) l' p = rw1 (qr S) l (S 17 l) i l' p := by
  unfold aEnq
  show aTurn _ _ _ (11 + l'.toNat) p = _
  rw [aTurn_o _ _ _ (by omega) (by omega), mw_rn _ _ _ (by omega), mw_rn _ _ _ (by omega)]
  unfold rw1 mw
  by_cases e : l' = l
  · subst e
    simp
  · have e2 : ¬ (11 + l'.toNat = 11 + l.toNat) := by omega
    rw [if_neg (fun q => e2 q.1), if_neg (fun q => e q.1)]
theorem mwq {S : Mem} {r : Nat} {i v : Int} (h : r < 11 ∨ 15 ≤ r) (l p : Int) (h0 : 0 ≤ l) (h4 : l < 4) : qr (mw S r i v) l p = qr S l p := by
  show mw S r i v (11 + l.toNat) p = _
  rw [mw_rn _ _ _ (by omega)]
theorem aTurnq {S : Mem} {i s : Int} (l p : Int) (h0 : 0 ≤ l) (h4 : l < 4) : qr (aTurn S i s) l p = qr S l p := by
  show aTurn S i s (11 + l.toNat) p = _
  rw [aTurn_o _ _ _ (by omega) (by omega)]
theorem AI_up {S : Mem} {lo : Int → Int} {x l : Int} (h : AI S lo x) (hu : S 9 l = 1) : 0 ≤ l ∧ l < S 1 0 ∧ l < 4 := by
  obtain ⟨ha, hl, -⟩ := h
  rcases hl.2.1 l with q | q
  · omega
  · exact ⟨q.2.1, q.2.2, by have := ha.1.2; omega⟩
set_option maxHeartbeats 2000000 in
theorem AI_enqH {S : Mem} {lo : Int → Int} {x i l : Int} (h : AI S lo x) (h0 : 0 ≤ i) (h1 : i < S 4 0) (hs : S 34 i = 0) (hu : S 9 l = 1) : AI (aEnqH S i l) lo x := by
  obtain ⟨l0, lL, l4⟩ := AI_up h hu
  obtain ⟨ha, hl, hb, hn, hh, hf, ht, ks, kh, kf, kl, hq, hi, ho⟩ := h
  have hlk : S 35 i = -6 := by
    rcases hi i h0 h1 with q | q
    · exact q.1
    · omega
  have eo : ∀ r : Nat, r ≠ 22 → r ≠ 17 → r ≠ 34 → r ≠ 35 → r ≠ 41 → (r < 11 ∨ 15 ≤ r) → aEnqH S i l r = S r := fun r q1 q2 q3 q4 q5 q6 => by
    unfold aEnqH
    rw [mw_rn _ _ _ q1, aEnq_o _ _ _ q2 q3 q4 q5 (by omega)]
  have e17 : aEnqH S i l 17 = up1 (S 17) l (S 17 l + 1) := by unfold aEnqH; rw [mw_rn _ _ _ (by decide), aEnq_17 _ _ l4]
  have e34 : aEnqH S i l 34 = up1 (S 34) i 1 := by unfold aEnqH; rw [mw_rn _ _ _ (by decide), aEnq_34 _ _ l4]
  have e35 : aEnqH S i l 35 = up1 (S 35) i l := by unfold aEnqH; rw [mw_rn _ _ _ (by decide), aEnq_35 _ _ l4]
  have e41 : aEnqH S i l 41 = up1 (up1 (S 41) (S 34 i) (S 41 (S 34 i) - 1)) 1 (up1 (S 41) (S 34 i) (S 41 (S 34 i) - 1) 1 + 1) := by unfold aEnqH; rw [mw_rn _ _ _ (by decide), aEnq_41 _ _ l4]
  have e22 : aEnqH S i l 22 = up1 (S 22) (S 33 i) (S 22 (S 33 i) - 1) := by unfold aEnqH; rw [mw_rs, aEnq_o _ _ _ (by decide) (by decide) (by decide) (by decide) (by omega)]
  have eq : ∀ l' p, 0 ≤ l' → l' < 4 → qr (aEnqH S i l) l' p = rw1 (qr S) l (S 17 l) i l' p := fun l' p a b => by
    unfold aEnqH
    rw [mwq (by omega) _ _ a b, aEnq_qr S i l0 l4 _ _ a b]
  have hqe : 0 ≤ S 17 l := by have := (hq l l0 l4).1; omega
  unfold AI Ja
  simp only [eo, e17, e34, e35, e41, e22, ne_eq, not_false_eq_true, Nat.reduceEqDiff, Nat.reduceLT, Nat.reduceLeDiff, true_or, or_true, forall_const]
  refine ⟨ha, hl, hb, hn, Jh_turn hh (by decide), hf, Jt_turn ht (by decide), Ks_turn ks h0 h1, Kh_enq kh h0 h1 hs (by decide), Kf_turn kf h0 h1 (by omega) (by decide), Kl_enq kl h0 h1 hs hlk, Jq_rw (Jq_enq hq h0 h1 hlk (by omega)) eq, Ji_rw (Ji_enq hi ⟨l0, lL⟩ hqe) ha.1.2 eq, Jo_ins ho ?_⟩
  rw [turn_val, hs]
  simp
