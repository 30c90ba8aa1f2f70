/-! Links that take buckets; moves told and dropped. -/
def aTake (S : Mem) (l : Int) : Nat → Mem
  | 0 => S
  | k + 1 =>
    let T := aTake S l k
    if T 19 k = -6 then aRel (mw T 19 k l) k else T
theorem aTk1_eq {T : Mem} {b l : Int} (l0 : 0 ≤ l) (l4 : l < 4) : aRel (mw T 19 b l) b = mw (mw (aLets T b l (T 4 0).toNat) 19 b l) 21 b 0 := by
  unfold aRel
  rw [mw_rs, up1_s, if_neg (by omega), mw_lets _ _ _ _ _ (by decide) (by decide) (by decide) (by decide) (by decide) (by omega) (by decide) l4, mw_lets _ _ _ _ _ (by decide) (by decide) (by decide) (by decide) (by decide) (by omega) (by decide) l4, mw_rn _ _ _ (by decide)]
theorem aTake_o (S : Mem) {l : Int} (l0 : 0 ≤ l) (l4 : l < 4) {r : Nat} (p1 : r ≠ 19) (q0 : r ≠ 21) (q1 : r ≠ 22) (q2 : r ≠ 17) (q3 : r ≠ 34) (q4 : r ≠ 35) (q5 : r ≠ 41) (q6 : r < 11 ∨ 15 ≤ r) : ∀ k, aTake S l k r = S r
  | 0 => rfl
  | k + 1 => by
    unfold aTake
    dsimp only
    split
    · rw [aTk1_eq l0 l4, mw_rn _ _ _ q0, mw_rn _ _ _ p1, aLets_o _ _ _ q1 q2 q3 q4 q5 q6 l4, aTake_o S l0 l4 p1 q0 q1 q2 q3 q4 q5 q6 k]
    · exact aTake_o S l0 l4 p1 q0 q1 q2 q3 q4 q5 q6 k
theorem aTake_19 (S : Mem) {l : Int} (l0 : 0 ≤ l) (l4 : l < 4) : ∀ (k : Nat) (b : Int), aTake S l k 19 b = if 0 ≤ b ∧ b < k ∧ S 19 b = -6 then l else S 19 b
  | 0, b => by rw [if_neg (by omega)]; rfl
  | k + 1, b => by
    have ih := aTake_19 S l0 l4 k
    have ik : aTake S l k 19 k = S 19 k := by rw [ih, if_neg (by omega)]
    unfold aTake
    dsimp only
    rw [ik]
    by_cases hc : S 19 k = -6
    · rw [if_pos hc, aTk1_eq l0 l4, mw_rn _ _ _ (by decide), mw_rs, aLets_o _ _ _ (by decide) (by decide) (by decide) (by decide) (by decide) (by omega) l4, up1_e]
      by_cases e : b = k
      · subst e
        rw [if_pos rfl, if_pos ⟨by omega, by omega, hc⟩]
      · rw [if_neg e, ih]
        by_cases h2 : 0 ≤ b ∧ b < k ∧ S 19 b = -6
        · rw [if_pos h2, if_pos ⟨h2.1, by omega, h2.2.2⟩]
        · rw [if_neg h2, if_neg (fun q => h2 ⟨q.1, by omega, q.2.2⟩)]
    · rw [if_neg hc, ih]
      by_cases h2 : 0 ≤ b ∧ b < k ∧ S 19 b = -6
      · rw [if_pos h2, if_pos ⟨h2.1, by omega, h2.2.2⟩]
      · rw [if_neg h2, if_neg (fun q => ?_)]
        by_cases e : b = k
        · subst e; exact hc q.2.2
        · exact h2 ⟨q.1, by omega, q.2.2⟩
theorem AI_take1 {T : Mem} {lo : Int → Int} {b l : Int} (h : AI T lo (-2)) (b0 : 0 ≤ b) (b8 : b < 8) (hu : T 9 l = 1) (hon : T 19 b = -6) : AI (aRel (mw T 19 b l) b) lo (-2) := by
  obtain ⟨l0, lL, l4⟩ := AI_up h hu
  have h4 := h.1.2.2.1
  rw [aTk1_eq l0 l4]
  have h1 := AI_lets (b := b) h hu (T 4 0).toNat (by omega)
  have eo : ∀ r, r ≠ 22 → r ≠ 17 → r ≠ 34 → r ≠ 35 → r ≠ 41 → (r < 11 ∨ 15 ≤ r) → aLets T b l (T 4 0).toNat r = T r := fun r a1 a2 a3 a4 a5 a6 => aLets_o T b _ a1 a2 a3 a4 a5 a6 l4 _
  refine AI_b h1 (fun r a1 a2 a3 a4 => by rw [mw_rn _ _ _ a3, mw_rn _ _ _ a1]) ?_ (fun q => absurd rfl q) ?_
  · simp only [mw_rs, mw_rn, eo, ne_eq, not_false_eq_true, Nat.reduceEqDiff, Nat.reduceLT, Nat.reduceLeDiff, true_or, or_true, forall_const]
    intro c
    obtain ⟨g1, g2, g3, g4, g5⟩ := h.2.2.1 c
    by_cases e : c = b
    · subst e
      simp only [up1_s]
      refine ⟨Or.inr ⟨l0, lL, Or.inl hu⟩, ?_, Or.inl trivial, fun q => by omega, fun q => by omega⟩
      rcases g2 with q | q
      · exact Or.inl q
      · exact absurd hon q.2.2.2.1
    · simp only [up1_n _ _ e]
      exact ⟨g1, g2, g3, g4, g5⟩
  · have hJ := h1.2.2.2.2.1
    simp only [mw_rs, mw_rn, eo, ne_eq, not_false_eq_true, Nat.reduceEqDiff, Nat.reduceLT, Nat.reduceLeDiff, true_or, or_true, forall_const] at hJ ⊢
    intro i i0 i1 i2
    have hf := lets_free (b := b) l4 h4.1 i i0 i1 i2
    rw [up1_n _ _ hf, up1_n _ _ hf]
    exact hJ i i0 i1 i2
theorem AI_take {S : Mem} {lo : Int → Int} {l : Int} (h : AI S lo (-2)) (hu : S 9 l = 1) : ∀ k : Nat, k ≤ 8 → AI (aTake S l k) lo (-2)
  | 0, _ => h
  | k + 1, hk => by
    obtain ⟨l0, lL, l4⟩ := AI_up h hu
    have ih := AI_take h hu k (by omega)
    unfold aTake
    dsimp only
    split
    · rename_i hc
      exact AI_take1 ih (by omega) (by omega) (by rw [aTake_o S l0 l4 (by decide) (by decide) (by decide) (by decide) (by decide) (by decide) (by decide) (by omega)]; exact hu) hc
    · exact ih
theorem AI_x {S : Mem} {lo : Int → Int} {x x' : Int} (h : AI S lo x) (hb : ∀ b, (S 19 b = x → x = x') ∧ (S 20 b = x → x = x')) (hn : Jn x' (S 9) (S 19)) : AI S lo x' := by
  obtain ⟨ha, hl, hb', hn', hh, hf, ht, ks, kh, kf, kl, hq, hi, ho⟩ := h
  refine ⟨ha, hl, ?_, hn, hh, hf, ht, ks, kh, kf, kl, hq, hi, ho⟩
  intro b
  obtain ⟨g1, g2, g3, g4, g5⟩ := hb' b
  obtain ⟨w1, w2⟩ := hb b
  refine ⟨?_, ?_, g3, g4, g5⟩
  · rcases g1 with q | ⟨q1, q2, q3 | q3⟩
    · exact Or.inl q
    · exact Or.inr ⟨q1, q2, Or.inl q3⟩
    · exact Or.inr ⟨q1, q2, Or.inr (q3.trans (w1 q3))⟩
  · rcases g2 with q | ⟨q1, q2, q3 | q3, q4, q5⟩
    · exact Or.inl q
    · exact Or.inr ⟨q1, q2, Or.inl q3, q4, q5⟩
    · exact Or.inr ⟨q1, q2, Or.inr (q3.trans (w2 q3)), q4, q5⟩
theorem AI_m2 {S : Mem} {lo : Int → Int} (h : AI S lo (-1)) : AI S lo (-2) := by
  refine AI_x h (fun b => ?_) (fun q => absurd rfl q)
  have := h.2.2.1 b
  omega
theorem AI_take8 {S : Mem} {lo : Int → Int} {l : Int} (h : AI S lo (-2)) (hu : S 9 l = 1) : AI (aTake S l 8) lo (-1) := by
  obtain ⟨l0, lL, l4⟩ := AI_up h hu
  have h1 := AI_take h hu 8 (by omega)
  refine AI_x h1 (fun b => ?_) (fun _ _ b b0 b8 => ?_)
  · have := h1.2.2.1 b
    omega
  · rw [aTake_19 S l0 l4]
    split
    · omega
    · rename_i q
      exact fun w => q ⟨b0, by omega, w⟩
/-! a link is made, or comes back -/
theorem AI_link0 {S : Mem} {lo : Int → Int} {s d : Int} (h : AI S lo (-1)) (hL4 : S 1 0 < 4) (hs : 1 ≤ s ∧ s ≤ 8) (hd : 1 ≤ d ∧ d ≤ 30) : AI (aLink0 S s d) lo (-2) := by
  have hno := fun l (q : S 1 0 ≤ l) (q4 : l < 4) => AI_nolink h q q4
  have e1 : aLink0 S s d 1 = up1 (S 1) 0 (S 1 0 + 1) := by unfold aLink0; simp only [mw_rs, mw_rn, ne_eq, not_false_eq_true, Nat.reduceEqDiff, Nat.reduceLT, Nat.reduceLeDiff, true_or, or_true, forall_const]
  have e7 : aLink0 S s d 7 = up1 (S 7) (S 1 0) s := by unfold aLink0; simp only [mw_rs, mw_rn, ne_eq, not_false_eq_true, Nat.reduceEqDiff, Nat.reduceLT, Nat.reduceLeDiff, true_or, or_true, forall_const]
  have e8 : aLink0 S s d 8 = up1 (S 8) (S 1 0) d := by unfold aLink0; simp only [mw_rs, mw_rn, ne_eq, not_false_eq_true, Nat.reduceEqDiff, Nat.reduceLT, Nat.reduceLeDiff, true_or, or_true, forall_const]
  have e9 : aLink0 S s d 9 = up1 (S 9) (S 1 0) 1 := by unfold aLink0; simp only [mw_rs, mw_rn, ne_eq, not_false_eq_true, Nat.reduceEqDiff, Nat.reduceLT, Nat.reduceLeDiff, true_or, or_true, forall_const]
  have eo : ∀ r : Nat, r ≠ 1 → r ≠ 7 → r ≠ 8 → r ≠ 9 → aLink0 S s d r = S r := fun r a b c e => by unfold aLink0; rw [mw_rn _ _ _ a, mw_rn _ _ _ e, mw_rn _ _ _ c, mw_rn _ _ _ b]
  have eq : ∀ l' p, 0 ≤ l' → l' < 4 → qr (aLink0 S s d) l' p = qr S l' p := fun l' p a b => by
    show aLink0 S s d (11 + l'.toNat) p = _
    rw [eo _ (by omega) (by omega) (by omega) (by omega)]
  obtain ⟨ha, hl, hb, hn, hh, hf, ht, ks, kh, kf, kl, hq, hi, ho⟩ := h
  have hL := ha.1
  have hup : ∀ l, l < S 1 0 → up1 (S 9) (S 1 0) 1 l = S 9 l := fun l q => up1_n _ _ (by omega)
  unfold AI Ja
  simp only [eo, e1, e7, e8, e9, up1_s, ne_eq, not_false_eq_true, Nat.reduceEqDiff, Nat.reduceLT, Nat.reduceLeDiff, true_or, or_true, forall_const]
  refine ⟨⟨⟨by omega, by omega⟩, ha.2⟩, ?_, ?_, fun q => absurd rfl q, hh, hf, ht, ks, kh, kf, kl, Jq_rw ?_ eq, Ji_rw ?_ (by omega) eq, ho⟩
  · refine ⟨fun l l0 l1 => ?_, fun l => ?_, fun l => ?_⟩
    · by_cases e : l = S 1 0
      · subst e; simp only [up1_s]; omega
      · simp only [up1_n _ _ e]; exact hl.1 l l0 (by omega)
    · by_cases e : l = S 1 0
      · subst e; right; simp only [up1_s]; exact ⟨trivial, by omega, by omega⟩
      · simp only [up1_n _ _ e]
        rcases hl.2.1 l with q | q
        · exact Or.inl q
        · exact Or.inr ⟨q.1, q.2.1, by omega⟩
    · by_cases e : l = S 1 0
      · subst e; simp only [up1_s]; omega
      · simp only [up1_n _ _ e]; exact hl.2.2 l
  · intro b
    obtain ⟨g1, g2, g3, g4, g5⟩ := hb b
    refine ⟨?_, ?_, g3, g4, g5⟩
    · rcases g1 with q | ⟨q1, q2, q3 | q3⟩
      · exact Or.inl q
      · exact Or.inr ⟨q1, by omega, Or.inl (by rw [hup _ q2]; exact q3)⟩
      · omega
    · rcases g2 with q | ⟨q1, q2, q3 | q3, q4, q5⟩
      · exact Or.inl q
      · exact Or.inr ⟨q1, by omega, Or.inl (by rw [hup _ q2]; exact q3), q4, q5⟩
      · omega
  · intro l l0 l4
    obtain ⟨q1, q4, q5, q6, q7⟩ := hq l l0 l4
    by_cases e : l = S 1 0
    · subst e
      obtain ⟨z1, z2, z3⟩ := hno (S 1 0) (Int.le_refl _) hL4
      simp only [up1_s]
      refine ⟨q1, fun p p0 p1 => by omega, q5, q6, fun q => by omega⟩
    · simp only [up1_n _ _ e]
      exact ⟨q1, q4, q5, q6, q7⟩
  · intro i i0 i1
    rcases hi i i0 i1 with q | ⟨q1, q2, q3⟩
    · exact Or.inl q
    · exact Or.inr ⟨q1, by omega, q3⟩
theorem AI_up1 {S : Mem} {lo : Int → Int} {l : Int} (h : AI S lo (-1)) (l0 : 0 ≤ l) (lL : l < S 1 0) : AI (mw S 9 l 1) lo (-2) := by
  have eo : ∀ r : Nat, r ≠ 9 → mw S 9 l 1 r = S r := fun r a => mw_rn _ _ _ a
  have e9 : mw S 9 l 1 9 = up1 (S 9) l 1 := mw_rs _ _ _ _
  have eq : ∀ l' p, 0 ≤ l' → l' < 4 → qr (mw S 9 l 1) l' p = qr S l' p := fun l' p a b => mwq (by omega) _ _ a b
  obtain ⟨ha, hl, hb, hn, hh, hf, ht, ks, kh, kf, kl, hq, hi, ho⟩ := h
  have hup : ∀ l', S 9 l' = 1 → up1 (S 9) l 1 l' = 1 := fun l' q => by rw [up1_e]; split; rfl; exact q
  unfold AI Ja
  simp only [eo, e9, ne_eq, not_false_eq_true, Nat.reduceEqDiff, Nat.reduceLT, Nat.reduceLeDiff, true_or, or_true, forall_const]
  refine ⟨ha, ⟨hl.1, fun l' => ?_, hl.2.2⟩, ?_, fun q => absurd rfl q, hh, hf, ht, ks, kh, kf, kl, Jq_rw ?_ eq, Ji_rw hi ha.1.2 eq, ho⟩
  · by_cases e : l' = l
    · subst e; right; simp only [up1_s]; exact ⟨trivial, by omega, by omega⟩
    · simp only [up1_n _ _ e]; exact hl.2.1 l'
  · intro b
    obtain ⟨g1, g2, g3, g4, g5⟩ := hb b
    refine ⟨?_, ?_, g3, g4, g5⟩
    · rcases g1 with q | ⟨q1, q2, q3 | q3⟩
      · exact Or.inl q
      · exact Or.inr ⟨q1, q2, Or.inl (hup _ q3)⟩
      · omega
    · rcases g2 with q | ⟨q1, q2, q3 | q3, q4, q5⟩
      · exact Or.inl q
      · exact Or.inr ⟨q1, q2, Or.inl (hup _ q3), q4, q5⟩
      · omega
  · intro l' a b
    obtain ⟨q1, q4, q5, q6, q7⟩ := hq l' a b
    refine ⟨q1, q4, q5, q6, fun q => ?_⟩
    by_cases e : l' = l
    · subst e; rw [up1_s] at q; omega
    · rw [up1_n _ _ e] at q; exact q7 q
def aLink (S : Mem) (s d : Int) : Mem := aTake (aLink0 S s d) (S 1 0) 8
def aBack (S : Mem) (l : Int) : Mem := aTake (mw S 9 l 1) l 8
theorem NI_of {S T : Mem} (h : AI T (fun _ => S 5 0) (-1)) (e : T 5 = S 5) : NI T := by unfold NI; rw [e]; exact h
theorem NI_link {S : Mem} {s d : Int} (h : NI S) (hL4 : S 1 0 < 4) (hs : 1 ≤ s ∧ s ≤ 8) (hd : 1 ≤ d ∧ d ≤ 30) : NI (aLink S s d) := by
  have h1 := AI_link0 h hL4 hs hd
  have hL := h.1.1
  refine NI_of (S := S) (AI_take8 h1 ?_) ?_
  · unfold aLink0; simp only [mw_rs, mw_rn, ne_eq, not_false_eq_true, Nat.reduceEqDiff, Nat.reduceLT, Nat.reduceLeDiff, true_or, or_true, forall_const, up1_s]
  · unfold aLink
    rw [aTake_o _ hL.1 hL4 (by decide) (by decide) (by decide) (by decide) (by decide) (by decide) (by decide) (by omega)]
    unfold aLink0; simp only [mw_rs, mw_rn, ne_eq, not_false_eq_true, Nat.reduceEqDiff, Nat.reduceLT, Nat.reduceLeDiff, true_or, or_true, forall_const]
theorem NI_back {S : Mem} {l : Int} (h : NI S) (l0 : 0 ≤ l) (lL : l < S 1 0) : NI (aBack S l) := by
  have hL := h.1.1
  refine NI_of (S := S) (AI_take8 (AI_up1 h l0 lL) (by rw [mw_rs, up1_s])) ?_
  unfold aBack
  rw [aTake_o _ l0 (by omega) (by decide) (by decide) (by decide) (by decide) (by decide) (by decide) (by decide) (by omega), mw_rn _ _ _ (by decide)]
/-! moves -/
def aCancel (S : Mem) (b : Int) : Mem := aRel (mw S 20 b (-6)) b
theorem AI_to0 {S : Mem} {lo : Int → Int} {x b : Int} (h : AI S lo x) : AI (mw S 20 b (-6)) lo x := by
  refine AI_b h (fun r a1 a2 a3 a4 => mw_rn _ _ _ a2) ?_ ?_ ?_
  · simp only [mw_rs, mw_rn, ne_eq, not_false_eq_true, Nat.reduceEqDiff, Nat.reduceLT, Nat.reduceLeDiff, true_or, or_true, forall_const]
    intro c
    obtain ⟨g1, g2, g3, g4, g5⟩ := h.2.2.1 c
    by_cases e : c = b
    · subst e
      simp only [up1_s]
      exact ⟨g1, Or.inl trivial, g3, g4, fun q => ⟨(g5 q).1, trivial⟩⟩
    · simp only [up1_n _ _ e]
      exact ⟨g1, g2, g3, g4, g5⟩
  · simp only [mw_rn, ne_eq, not_false_eq_true, Nat.reduceEqDiff, Nat.reduceLT, Nat.reduceLeDiff, true_or, or_true, forall_const]
    exact h.2.2.2.1
  · simp only [mw_rn, ne_eq, not_false_eq_true, Nat.reduceEqDiff, Nat.reduceLT, Nat.reduceLeDiff, true_or, or_true, forall_const]
    exact h.2.2.2.2.1
theorem AI_cancel {S : Mem} {lo : Int → Int} {x b : Int} (h : AI S lo x) (hu : S 19 b = -6 ∨ S 9 (S 19 b) = 1) : AI (aCancel S b) lo x := by
  refine AI_rel (AI_to0 h) ?_ ?_
  · simp only [mw_rn, ne_eq, not_false_eq_true, Nat.reduceEqDiff, Nat.reduceLT, Nat.reduceLeDiff, true_or, or_true, forall_const]; exact hu
  · simp only [mw_rn, ne_eq, not_false_eq_true, Nat.reduceEqDiff, Nat.reduceLT, Nat.reduceLeDiff, true_or, or_true, forall_const]; exact (h.2.2.1 b).2.2.2.1
def aMv0 (S : Mem) (b l how : Int) : Mem := mw (mw S 20 b l) 21 b (if how = 1 then 1 else 0)
def aMove (S : Mem) (b l how : Int) : Mem := if how = 2 then aReach (aMv0 S b l how) b l else aSettle (aMv0 S b l how) b
theorem no_held {S : Mem} {lo : Int → Int} {x b : Int} (h : AI S lo x) (hho : S 21 b = 0) (hon : S 19 b ≠ -6) : ∀ i, 0 ≤ i → i < S 4 0 → S 34 i = 0 → S 33 i ≠ b := by
  intro i i0 i1 i2 e
  rcases h.2.2.2.2.1 i i0 i1 i2 with q | q
  · rw [e, hho] at q; omega
  · rw [e] at q; exact hon q
theorem AI_mv0 {S : Mem} {lo : Int → Int} {b l how : Int} (h : AI S lo (-1)) (b0 : 0 ≤ b) (b8 : b < 8) (hu : S 9 l = 1) (hon : S 19 b ≠ -6) (hne : S 19 b ≠ l) (hho : S 21 b = 0) : AI (aMv0 S b l how) lo (-1) := by
  obtain ⟨l0, lL, l4⟩ := AI_up h hu
  have hfree := no_held h hho hon
  unfold aMv0
  refine AI_b h (fun r a1 a2 a3 a4 => by rw [mw_rn _ _ _ a3, mw_rn _ _ _ a2]) ?_ ?_ ?_
  · simp only [mw_rs, mw_rn, ne_eq, not_false_eq_true, Nat.reduceEqDiff, Nat.reduceLT, Nat.reduceLeDiff, true_or, or_true, forall_const]
    intro c
    obtain ⟨g1, g2, g3, g4, g5⟩ := h.2.2.1 c
    by_cases e : c = b
    · subst e
      simp only [up1_s]
      refine ⟨g1, Or.inr ⟨l0, lL, Or.inl hu, hon, Ne.symm hne⟩, ?_, fun _ => hon, fun q => by omega⟩
      split
      · exact Or.inr rfl
      · exact Or.inl rfl
    · simp only [up1_n _ _ e]
      exact ⟨g1, g2, g3, g4, g5⟩
  · simp only [mw_rn, ne_eq, not_false_eq_true, Nat.reduceEqDiff, Nat.reduceLT, Nat.reduceLeDiff, true_or, or_true, forall_const]
    exact h.2.2.2.1
  · simp only [mw_rs, mw_rn, ne_eq, not_false_eq_true, Nat.reduceEqDiff, Nat.reduceLT, Nat.reduceLeDiff, true_or, or_true, forall_const]
    intro i i0 i1 i2
    rw [up1_n _ _ (hfree i i0 i1 i2)]
    exact h.2.2.2.2.1 i i0 i1 i2
theorem NI_move {S : Mem} {b l how : Int} (h : NI S) (b0 : 0 ≤ b) (b8 : b < 8) (hu : S 9 l = 1) (hon : S 19 b ≠ -6) (hne : S 19 b ≠ l) (hho : S 21 b = 0) : NI (aMove S b l how) := by
  obtain ⟨l0, lL, l4⟩ := AI_up h hu
  have h1 := AI_mv0 (how := how) h b0 b8 hu hon hne hho
  have e5 : aMv0 S b l how 5 = S 5 := by unfold aMv0; simp only [mw_rn, ne_eq, not_false_eq_true, Nat.reduceEqDiff, Nat.reduceLT, Nat.reduceLeDiff, true_or, or_true, forall_const]
  have e9 : aMv0 S b l how 9 = S 9 := by unfold aMv0; simp only [mw_rn, ne_eq, not_false_eq_true, Nat.reduceEqDiff, Nat.reduceLT, Nat.reduceLeDiff, true_or, or_true, forall_const]
  have e19 : aMv0 S b l how 19 = S 19 := by unfold aMv0; simp only [mw_rn, ne_eq, not_false_eq_true, Nat.reduceEqDiff, Nat.reduceLT, Nat.reduceLeDiff, true_or, or_true, forall_const]
  unfold aMove
  split
  · refine NI_of (S := S) (AI_reach h1 b0 b8 (by rw [e9]; exact hu) (by rw [e19]; exact hon)) ?_
    rw [aReach_o _ _ _ (by decide) (by decide) (by decide) (by decide) (by decide) (by decide) (by decide) (by decide) (by decide) (by omega) l4, e5]
  · refine NI_of (S := S) (AI_settle h1 b0 b8 (goal_up h1)) ?_
    rw [aSettle_o h1 _ (by decide) (by decide) (by decide) (by decide) (by decide) (by decide) (by decide) (by decide) (by decide) (by omega), e5]
theorem NI_cancel {S : Mem} {b : Int} (h : NI S) : NI (aCancel S b) := by
  have hb := h.2.2.1 b
  have hL := h.1.1
  refine NI_of (S := S) (AI_cancel h ?_) ?_
  · rcases hb.1 with q | ⟨q1, q2, q3 | q3⟩
    · exact Or.inl q
    · exact Or.inr q3
    · omega
  · unfold aCancel
    rw [aRel_o _ _ (by decide) (by decide) (by decide) (by decide) (by decide) (by decide) (by omega) (by rw [mw_rn _ _ _ (by decide)]; omega), mw_rn _ _ _ (by decide)]
