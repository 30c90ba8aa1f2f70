/-! Held letters let go; a bucket comes there; ticks. -/
def aLets (S : Mem) (b l : Int) : Nat → Mem
  | 0 => S
  | k + 1 =>
    let T := aLets S b l k
    if T 34 k = 0 ∧ T 33 k = b then aEnqH T k l else T
theorem aEnqH_o (S : Mem) (i l : Int) {r : Nat} (q1 : r ≠ 22) (q2 : r ≠ 17) (q3 : r ≠ 34) (q4 : r ≠ 35) (q5 : r ≠ 41) (q6 : r < 11 ∨ 15 ≤ r) (hl : l < 4) : aEnqH S i l r = S r := by
  unfold aEnqH
  rw [mw_rn _ _ _ q1, aEnq_o _ _ _ q2 q3 q4 q5 (by omega)]
theorem aEnqH_34 (S : Mem) (i : Int) {l : Int} (hl : l < 4) : aEnqH S i l 34 = up1 (S 34) i 1 := by unfold aEnqH; rw [mw_rn _ _ _ (by decide), aEnq_34 _ _ hl]
theorem aLets_o (S : Mem) (b l : Int) {r : Nat} (q1 : r ≠ 22) (q2 : r ≠ 17) (q3 : r ≠ 34) (q4 : r ≠ 35) (q5 : r ≠ 41) (q6 : r < 11 ∨ 15 ≤ r) (hl : l < 4) : ∀ k, aLets S b l k r = S r
  | 0 => rfl
  | k + 1 => by
    unfold aLets
    dsimp only
    split
    · rw [aEnqH_o _ _ _ q1 q2 q3 q4 q5 q6 hl, aLets_o S b l q1 q2 q3 q4 q5 q6 hl k]
    · exact aLets_o S b l q1 q2 q3 q4 q5 q6 hl k
/-- which letters are held behind k of them -/
theorem aLets_34 (S : Mem) (b : Int) {l : Int} (hl : l < 4) : ∀ (k : Nat) (i : Int), aLets S b l k 34 i = if 0 ≤ i ∧ i < k ∧ S 34 i = 0 ∧ S 33 i = b then 1 else S 34 i
  | 0, i => by rw [if_neg (by omega)]; rfl
  | k + 1, i => by
    have ih := aLets_34 S b hl k
    have e33 : aLets S b l k 33 = S 33 := aLets_o S b l (by decide) (by decide) (by decide) (by decide) (by decide) (by omega) hl k
    have ik : aLets S b l k 34 k = S 34 k := by rw [ih, if_neg (by omega)]
    unfold aLets
    dsimp only
    rw [ik, e33]
    by_cases hc : S 34 k = 0 ∧ S 33 k = b
    · rw [if_pos hc, aEnqH_34 _ _ hl, up1_e]
      by_cases e : i = k
      · subst e
        rw [if_pos rfl, if_pos ⟨by omega, by omega, hc⟩]
      · rw [if_neg e, ih]
        by_cases h2 : 0 ≤ i ∧ i < k ∧ S 34 i = 0 ∧ S 33 i = b
        · rw [if_pos h2, if_pos ⟨h2.1, by omega, h2.2.2⟩]
        · rw [if_neg h2, if_neg (fun q => h2 ⟨q.1, by omega, q.2.2⟩)]
    · rw [if_neg hc, ih]
      by_cases h2 : 0 ≤ i ∧ i < k ∧ S 34 i = 0 ∧ S 33 i = b
      · rw [if_pos h2, if_pos ⟨h2.1, by omega, h2.2.2⟩]
      · rw [if_neg h2, if_neg (fun q => ?_)]
        by_cases e : i = k
        · subst e; exact hc q.2.2
        · exact h2 ⟨q.1, by omega, q.2.2⟩
theorem AI_lets {S : Mem} {lo : Int → Int} {x b l : Int} (h : AI S lo x) (hu : S 9 l = 1) : ∀ k : Nat, (k : Int) ≤ S 4 0 → AI (aLets S b l k) lo x
  | 0, _ => h
  | k + 1, hk => by
    obtain ⟨l0, lL, l4⟩ := AI_up h hu
    have ih := AI_lets (b := b) h hu k (by omega)
    have e4 : aLets S b l k 4 = S 4 := aLets_o S b l (by decide) (by decide) (by decide) (by decide) (by decide) (by omega) l4 k
    have e9 : aLets S b l k 9 = S 9 := aLets_o S b l (by decide) (by decide) (by decide) (by decide) (by decide) (by omega) l4 k
    unfold aLets
    dsimp only
    split
    · rename_i hc
      exact AI_enqH ih (by omega) (by rw [e4]; omega) hc.1 (by rw [e9]; exact hu)
    · exact ih
/-- nothing is held: nothing changes -/
theorem aLets_none {S : Mem} {b l : Int} : ∀ k : Nat, (∀ i : Int, 0 ≤ i → i < k → ¬ (S 34 i = 0 ∧ S 33 i = b)) → aLets S b l k = S
  | 0, _ => rfl
  | k + 1, h => by
    have ih := aLets_none (S := S) (b := b) (l := l) k (fun i a c => h i a (by omega))
    unfold aLets
    dsimp only
    rw [ih, if_neg (h k (by omega) (by omega))]
theorem mw_turn (S : Mem) {r : Nat} (i v j s : Int) (h1 : r ≠ 34) (h2 : r ≠ 41) : aTurn (mw S r i v) j s = mw (aTurn S j s) r i v := by
  unfold aTurn aDec
  rw [mw_rn _ _ _ (Ne.symm h1), mw_rn _ _ _ (Ne.symm h2)]
  rw [mw_comm S i v _ _ h2, mw_rn _ _ _ (Ne.symm h2), mw_comm _ i v _ _ h2, mw_comm _ i v _ _ h1]
theorem mw_enqH (S : Mem) {r : Nat} (i v j l : Int) (q1 : r ≠ 22) (q2 : r ≠ 17) (q3 : r ≠ 34) (q4 : r ≠ 35) (q5 : r ≠ 41) (q6 : r < 11 ∨ 15 ≤ r) (q7 : r ≠ 33) (hl : l < 4) : aEnqH (mw S r i v) j l = mw (aEnqH S j l) r i v := by
  unfold aEnqH aEnq
  rw [mw_rn _ _ _ (Ne.symm q1), mw_rn _ _ _ (Ne.symm q2), mw_rn _ _ _ (Ne.symm q7)]
  rw [mw_comm S i v _ _ (show r ≠ 11 + l.toNat by omega), mw_comm _ i v _ _ q2, mw_comm _ i v _ _ q4, mw_turn _ _ _ _ _ q3 q5, mw_comm _ i v _ _ q1]
theorem mw_lets (S : Mem) {r : Nat} (i v b l : Int) (q1 : r ≠ 22) (q2 : r ≠ 17) (q3 : r ≠ 34) (q4 : r ≠ 35) (q5 : r ≠ 41) (q6 : r < 11 ∨ 15 ≤ r) (q7 : r ≠ 33) (hl : l < 4) : ∀ k, aLets (mw S r i v) b l k = mw (aLets S b l k) r i v
  | 0 => rfl
  | k + 1 => by
    unfold aLets
    dsimp only
    rw [mw_lets S i v b l q1 q2 q3 q4 q5 q6 q7 hl k, mw_rn _ _ _ (Ne.symm q3), mw_rn _ _ _ (Ne.symm q7)]
    split
    · rw [mw_enqH _ _ _ _ _ q1 q2 q3 q4 q5 q6 q7 hl]
    · rfl
/-- buckets change -/
theorem AI_b {S T : Mem} {lo : Int → Int} {x x' : Int} (h : AI S lo x) (hr : ∀ r, r ≠ 19 → r ≠ 20 → r ≠ 21 → r ≠ 23 → T r = S r) (hb' : Jb (S 1 0) x' (S 9) (T 19) (T 20) (T 21)) (hn' : Jn x' (S 9) (T 19)) (hh' : Jh (S 4 0) (S 34) (S 33) (T 19) (T 21)) : AI T lo x' := by
  have eq : ∀ l' p, 0 ≤ l' → l' < 4 → qr T l' p = qr S l' p := fun l' p a b => by
    show T (11 + l'.toNat) p = _
    rw [hr _ (by omega) (by omega) (by omega) (by omega)]
  obtain ⟨ha, hl, hb, hn, hh, hf, ht, ks, kh, kf, kl, hq, hi, ho⟩ := h
  unfold AI Ja
  simp only [hr, ne_eq, not_false_eq_true, Nat.reduceEqDiff, Nat.reduceLT, Nat.reduceLeDiff, true_or, or_true, forall_const]
  exact ⟨ha, hl, hb', hn', hh', hf, ht, ks, kh, kf, kl, Jq_rw hq eq, Ji_rw hi ha.1.2 eq, ho⟩
def aRel (S : Mem) (b : Int) : Mem := if S 19 b = -6 then mw S 21 b 0 else aLets (mw S 21 b 0) b (S 19 b) (S 4 0).toNat
/-- behind the letting go none of the bucket's letters is held, and it may hold no more -/
theorem lets_free {S : Mem} {b l : Int} (hl : l < 4) (h0 : 0 ≤ S 4 0) : ∀ i : Int, 0 ≤ i → i < S 4 0 → aLets S b l (S 4 0).toNat 34 i = 0 → S 33 i ≠ b := by
  intro i i0 i1 h2 e
  rw [aLets_34 S b hl] at h2
  by_cases h3 : S 34 i = 0
  · rw [if_pos ⟨i0, by omega, h3, e⟩] at h2
    omega
  · rw [if_neg (fun q => h3 q.2.2.1)] at h2
    exact h3 h2
/-- a bucket that is on a link that is up lets go -/
theorem AI_rel {S : Mem} {lo : Int → Int} {x b : Int} (h : AI S lo x) (hu : S 19 b = -6 ∨ S 9 (S 19 b) = 1) (hto : S 21 b = 1 → S 19 b ≠ -6) : AI (aRel S b) lo x := by
  have h0 := h.1.2.2.1
  unfold aRel
  split
  · rename_i e
    have hz : S 21 b = 0 := by
      have := (h.2.2.1 b).2.2.1
      rcases this with q | q
      · exact q
      · exact absurd e (hto q)
    rw [show (0 : Int) = S 21 b from hz.symm, mw_id]
    exact h
  · rename_i e
    have hu : S 9 (S 19 b) = 1 := by rcases hu with q | q; exact absurd q e; exact q
    obtain ⟨l0, lL, l4⟩ := AI_up h hu
    rw [mw_lets S _ _ _ _ (by decide) (by decide) (by decide) (by decide) (by decide) (by omega) (by decide) l4]
    have h1 := AI_lets (b := b) h hu (S 4 0).toNat (by omega)
    have eo : ∀ r, r ≠ 22 → r ≠ 17 → r ≠ 34 → r ≠ 35 → r ≠ 41 → (r < 11 ∨ 15 ≤ r) → aLets S b (S 19 b) (S 4 0).toNat r = S r := fun r a1 a2 a3 a4 a5 a6 => aLets_o S b _ a1 a2 a3 a4 a5 a6 l4 _
    obtain ⟨ha, hl, hb, hn, hh, -⟩ := id h1
    simp only [eo, ne_eq, not_false_eq_true, Nat.reduceEqDiff, Nat.reduceLT, Nat.reduceLeDiff, true_or, or_true, forall_const] at hb hn hh
    refine AI_b h1 (fun r a1 a2 a3 a4 => mw_rn _ _ _ a3) ?_ ?_ ?_
    · simp only [mw_rs, mw_rn, eo, ne_eq, not_false_eq_true, Nat.reduceEqDiff, Nat.reduceLT, Nat.reduceLeDiff, true_or, or_true, forall_const]
      intro c
      obtain ⟨g1, g2, g3, g4, g5⟩ := hb c
      refine ⟨g1, g2, ?_, ?_, g5⟩
      · rw [up1_e]
        split
        · exact Or.inl rfl
        · exact g3
      · rw [up1_e]
        split
        · exact fun q => by omega
        · exact g4
    · simp only [mw_rn, eo, ne_eq, not_false_eq_true, Nat.reduceEqDiff, Nat.reduceLT, Nat.reduceLeDiff, true_or, or_true, forall_const]
      exact hn
    · simp only [mw_rs, mw_rn, eo, ne_eq, not_false_eq_true, Nat.reduceEqDiff, Nat.reduceLT, Nat.reduceLeDiff, true_or, or_true, forall_const]
      intro i i0 i1 i2
      rcases hh i i0 i1 i2 with q | q
      · left
        rw [up1_n _ _ (lets_free l4 h0.1 i i0 i1 i2)]
        exact q
      · right
        exact q
