/-! The reference beside the small steps: leaving, arriving, coming out. -/
def mLeave1 (M : Mem) (i l : Int) : Mem := mw (mw (mw (mw (mw (mw M 61 i 2) 64 i (M 47 0)) 65 i (M 47 0 + M 49 l)) 68 i (M 47 28)) 47 28 (M 47 28 + 1)) 51 l (M 51 l + 1)
theorem Rt_leave {ws qs qe : Int → Int} {rw : Int → Int → Int} {q lv : Int → Int} {s B l : Int} (h : Rt ws qs qe rw q lv s B) (l0 : 0 ≤ l) (l4 : l < 4) (hw : 0 ≤ ws l) (hq : qs l < qe l) (hi : ∀ k p, 0 ≤ k → k < 4 → ws k ≤ p → p < qe k → (k ≠ l ∨ p ≠ qs l) → rw k p ≠ rw l (qs l)) (hqe : ∀ k, 0 ≤ k → k < 4 → qs k ≤ qe k) : Rt ws (up1 qs l (qs l + 1)) qe rw q (up1 lv (rw l (qs l)) s) (s + 1) (B + 1) := by
  obtain ⟨h1, h2, h3⟩ := h
  refine ⟨⟨by omega, by omega⟩, fun j => ?_, fun k k0 k4 => ?_⟩
  · have := h2 j
    rw [up1_e]
    split <;> omega
  · obtain ⟨a1, a2, a3, a4⟩ := h3 k k0 k4
    have hk := hqe k k0 k4
    by_cases e : k = l
    · subst e
      rw [up1_s]
      refine ⟨fun p p0 p1 => ?_, fun p p' p0 p1 p2 => a2 p p' (by omega) p1 p2, fun p p0 p1 => ?_, fun p p' p0 p1 p2 => ?_⟩
      · have := a1 p (by omega) p1
        omega
      · by_cases e2 : p = qs k
        · rw [e2, up1_s]; omega
        · rw [up1_n _ _ (hi k p k0 k4 p0 (by omega) (Or.inr e2))]
          have := a3 p p0 (by omega)
          omega
      · have e2 : p ≠ qs k := by omega
        by_cases e3 : p' = qs k
        · rw [e3, up1_s, up1_n _ _ (hi k p k0 k4 p0 (by omega) (Or.inr e2))]
          exact a3 p p0 (by omega)
        · rw [up1_n _ _ (hi k p k0 k4 p0 (by omega) (Or.inr e2)), up1_n _ _ (hi k p' k0 k4 (by omega) (by omega) (Or.inr e3))]
          exact a4 p p' p0 p1 (by omega)
    · rw [up1_n _ _ e]
      refine ⟨fun p p0 p1 => ?_, a2, fun p p0 p1 => ?_, fun p p' p0 p1 p2 => ?_⟩
      · have := a1 p p0 p1
        omega
      · rw [up1_n _ _ (hi k p k0 k4 p0 (by omega) (Or.inl e))]
        have := a3 p p0 p1
        omega
      · rw [up1_n _ _ (hi k p k0 k4 p0 (by omega) (Or.inl e)), up1_n _ _ (hi k p' k0 k4 (by omega) (by omega) (Or.inl e))]
        exact a4 p p' p0 p1 p2
theorem rows_apart {S : Mem} {lo : Int → Int} {x : Int} (h : AI S lo x) {k l p p' : Int} (k0 : 0 ≤ k) (k4 : k < 4) (l0 : 0 ≤ l) (l4 : l < 4) (p0 : 0 ≤ p) (p1 : p < S 17 k) (q0 : 0 ≤ p') (q1 : p' < S 17 l) (hne : k ≠ l ∨ p ≠ p') : qr S k p ≠ qr S l p' := by
  have hq := h.2.2.2.2.2.2.2.2.2.2.2.1
  obtain ⟨-, a4, a5, -, -⟩ := hq k k0 k4
  obtain ⟨-, b4, -, -, -⟩ := hq l l0 l4
  by_cases e : k = l
  · subst e
    have hpp : p ≠ p' := by omega
    by_cases hlt : p < p'
    · exact a5 p p' p0 hlt q1
    · exact (a5 p' p q0 (by omega) p1).symm
  · intro e2
    have h1 := (a4 p p0 p1).1.2.2
    have h2 := (b4 p' q0 q1).1.2.2
    rw [e2, h2] at h1
    exact e h1.symm
theorem AI_ord {S : Mem} {lo : Int → Int} {x : Int} (h : AI S lo x) : ∀ k, 0 ≤ k → k < 4 → 0 ≤ S 15 k ∧ S 15 k ≤ S 16 k ∧ S 16 k ≤ S 17 k := fun k k0 k4 => (h.2.2.2.2.2.2.2.2.2.2.2.1 k k0 k4).1
theorem RM_leave1 {S M : Mem} {lo : Int → Int} {x B l : Int} (h : AI S lo x) (hR : RM S M B) (hu : S 9 l = 1) (hq : S 16 l < S 17 l) : RM (aLeave1 S l) (mLeave1 M (qr S l (S 16 l)) l) (B + 1) := by
  obtain ⟨l0, lL, l4⟩ := AI_up h hu
  have hord := AI_ord h
  have hs : S 34 (qr S l (S 16 l)) = 1 := ((h.2.2.2.2.2.2.2.2.2.2.2.1 l l0 l4).2.1 (S 16 l) (by have := hord l l0 l4; omega) hq).2.2.2 (Int.le_refl _)
  have eo : ∀ r : Nat, r ≠ 37 → r ≠ 38 → r ≠ 34 → r ≠ 41 → r ≠ 16 → r ≠ 18 → aLeave1 S l r = S r := fun r a b c d e f => aLeave1_o S l a b c d e f
  have e34 : aLeave1 S l 34 = up1 (S 34) (qr S l (S 16 l)) 2 := by
    unfold aLeave1
    rw [mw_rn _ _ _ (by decide), mw_rn _ _ _ (by decide), aTurn_34, mw_rn _ _ _ (by decide), mw_rn _ _ _ (by decide)]
  have e38 : aLeave1 S l 38 = up1 (S 38) (qr S l (S 16 l)) (S 5 0 + S 8 l) := by
    unfold aLeave1
    rw [mw_rn _ _ _ (by decide), mw_rn _ _ _ (by decide), aTurn_o _ _ _ (by decide) (by decide), mw_rs, mw_rn _ _ _ (by decide)]
  have e37 : aLeave1 S l 37 = up1 (S 37) (qr S l (S 16 l)) (S 5 0) := by
    unfold aLeave1
    rw [mw_rn _ _ _ (by decide), mw_rn _ _ _ (by decide), aTurn_o _ _ _ (by decide) (by decide), mw_rn _ _ _ (by decide), mw_rs]
  have e41 : aLeave1 S l 41 4 = S 41 4 := by
    unfold aLeave1
    rw [mw_rn _ _ _ (by decide), mw_rn _ _ _ (by decide), aTurn_41]
    simp only [mw_rn _ _ _ (show (34 : Nat) ≠ 37 by decide), mw_rn _ _ _ (show (34 : Nat) ≠ 38 by decide), mw_rn _ _ _ (show (41 : Nat) ≠ 37 by decide), mw_rn _ _ _ (show (41 : Nat) ≠ 38 by decide)]
    rw [turn_val, hs, if_neg (by decide), if_neg (by decide)]
    omega
  have eq : ∀ l' p, 0 ≤ l' → l' < 4 → qr (aLeave1 S l) l' p = qr S l' p := fun l' p a b => by
    show aLeave1 S l (11 + l'.toNat) p = _
    rw [eo _ (by omega) (by omega) (by omega) (by omega) (by omega) (by omega)]
  obtain ⟨⟨e48, e49, e50, e51, e52, e53, e54, e55, e56, e57, e58, e59, e60, e61, e62, e63, e64, e65, e66, e69, e70⟩, ⟨t1, t2, t3, t4, t5, t6, t7, t8, t9⟩, hT⟩ := hR
  refine ⟨?_, ?_, ?_⟩
  · unfold Rr mLeave1
    simp only [mw_rs, mw_rn, eo, e34, e37, e38, aLeave1_18, ne_eq, not_false_eq_true, Nat.reduceEqDiff, Nat.reduceLT, Nat.reduceLeDiff, true_or, or_true, forall_const]
    simp only [e48, e49, e50, e51, e52, e53, e54, e55, e56, e57, e58, e59, e60, e61, e62, e63, e64, e65, e66, e69, e70, t1, and_self]
  · unfold Rs mLeave1
    simp only [mw_rs, mw_rn, eo, e41, ne_eq, not_false_eq_true, Nat.reduceEqDiff, Nat.reduceLT, Nat.reduceLeDiff, true_or, or_true, forall_const, up1_e]
    simp [t1, t2, t3, t4, t5, t6, t7, t8, t9]
  · unfold mLeave1
    simp only [mw_rs, mw_rn, eo, aLeave1_16, ne_eq, not_false_eq_true, Nat.reduceEqDiff, Nat.reduceLT, Nat.reduceLeDiff, true_or, or_true, forall_const, up1_s]
    exact Rt_rw (Rt_leave hT l0 l4 (hord l l0 l4).1 hq (fun k p k0 k4 p0 p1 hne => rows_apart h k0 k4 l0 l4 (by have := hord k k0 k4; omega) p1 (by have := hord l l0 l4; omega) hq hne) (fun k k0 k4 => (hord k k0 k4).2.2)) eq
def mOut (M : Mem) (i : Int) : Mem := mw (mw (mw (mw M 61 i 4) 66 i (M 47 0)) 69 (M 47 29) i) 47 29 (M 47 29 + 1)
theorem Rt_ws {ws qs qe : Int → Int} {rw : Int → Int → Int} {q lv : Int → Int} {s B l v : Int} (h : Rt ws qs qe rw q lv s B) (hv : ws l ≤ v) : Rt (up1 ws l v) qs qe rw q lv s B := by
  obtain ⟨h1, h2, h3⟩ := h
  refine ⟨h1, h2, fun k k0 k4 => ?_⟩
  obtain ⟨a1, a2, a3, a4⟩ := h3 k k0 k4
  have hw : ws k ≤ up1 ws l v k := by rw [up1_e]; split; rename_i e; rw [e]; exact hv; exact Int.le_refl _
  exact ⟨a1, a2, fun p p0 p1 => a3 p (by omega) p1, fun p p' p0 p1 p2 => a4 p p' (by omega) p1 p2⟩
theorem RM_out {S M : Mem} {lo : Int → Int} {x B i : Int} (h : AI S lo x) (hR : RM S M B) (hs : S 34 i ≠ 4) : RM (aLetOut S i) (mOut M i) B := by
  have eo : ∀ r : Nat, r ≠ 27 → r ≠ 29 → r ≠ 30 → r ≠ 39 → r ≠ 34 → r ≠ 41 → r ≠ 40 → aLetOut S i r = S r := fun r a b c d e f g => aLetOut_o S i a b c d e f g
  have e41 : aLetOut S i 41 4 = S 41 4 + 1 := by rw [aLetOut_41, ins4 hs]
  have eq : ∀ l' p, 0 ≤ l' → l' < 4 → qr (aLetOut S i) l' p = qr S l' p := fun l' p a b => by
    show aLetOut S i (11 + l'.toNat) p = _
    rw [eo _ (by omega) (by omega) (by omega) (by omega) (by omega) (by omega) (by omega)]
  obtain ⟨⟨e48, e49, e50, e51, e52, e53, e54, e55, e56, e57, e58, e59, e60, e61, e62, e63, e64, e65, e66, e69, e70⟩, ⟨t1, t2, t3, t4, t5, t6, t7, t8, t9⟩, hT⟩ := hR
  refine ⟨?_, ?_, ?_⟩
  · unfold Rr mOut
    simp only [mw_rs, mw_rn, eo, aLetOut_34, aLetOut_39, aLetOut_40, ne_eq, not_false_eq_true, Nat.reduceEqDiff, Nat.reduceLT, Nat.reduceLeDiff, true_or, or_true, forall_const]
    simp only [e48, e49, e50, e51, e52, e53, e54, e55, e56, e57, e58, e59, e60, e61, e62, e63, e64, e65, e66, e69, e70, t1, t8, and_self]
  · unfold Rs mOut
    simp only [mw_rs, mw_rn, eo, e41, ne_eq, not_false_eq_true, Nat.reduceEqDiff, Nat.reduceLT, Nat.reduceLeDiff, true_or, or_true, forall_const, up1_e]
    simp [t1, t2, t3, t4, t5, t6, t7, t8, t9]
  · unfold mOut
    simp only [mw_rs, mw_rn, eo, ne_eq, not_false_eq_true, Nat.reduceEqDiff, Nat.reduceLT, Nat.reduceLeDiff, true_or, or_true, forall_const, up1_e]
    exact Rt_rw hT eq
theorem RM_ws {S M : Mem} {B l v : Int} (hR : RM S M B) (hv : S 15 l ≤ v) : RM (mw S 15 l v) M B := by
  obtain ⟨h1, h2, h3⟩ := hR
  refine ⟨?_, ?_, ?_⟩
  · unfold Rr at *
    simp only [mw_rn, ne_eq, not_false_eq_true, Nat.reduceEqDiff, Nat.reduceLT, Nat.reduceLeDiff, true_or, or_true, forall_const]
    exact h1
  · unfold Rs at *
    simp only [mw_rn, ne_eq, not_false_eq_true, Nat.reduceEqDiff, Nat.reduceLT, Nat.reduceLeDiff, true_or, or_true, forall_const]
    exact h2
  · simp only [mw_rs, mw_rn, ne_eq, not_false_eq_true, Nat.reduceEqDiff, Nat.reduceLT, Nat.reduceLeDiff, true_or, or_true, forall_const]
    exact Rt_rw (Rt_ws h3 hv) (fun k p k0 k4 => mwq (by omega) _ _ k0 k4)
theorem RM_arrOut {S M : Mem} {lo : Int → Int} {x B l : Int} (h : AI S lo x) (hR : RM S M B) (hn : S 5 1 = 0) (hs : S 34 (qr S l (S 15 l)) ≠ 4) : RM (aArr1 S l) (mOut M (qr S l (S 15 l))) B := by
  unfold aArr1
  rw [if_pos hn]
  have e15 : aLetOut S (qr S l (S 15 l)) 15 = S 15 := aLetOut_o _ _ (by decide) (by decide) (by decide) (by decide) (by decide) (by decide) (by decide)
  exact RM_ws (RM_out h hR hs) (by rw [e15]; omega)
theorem RM_arrWait {S M : Mem} {B l : Int} (hR : RM S M B) (hn : S 5 1 ≠ 0) (hs : S 34 (qr S l (S 15 l)) ≠ 4) : RM (aArr1 S l) (mw M 61 (qr S l (S 15 l)) 3) B := by
  unfold aArr1
  rw [if_neg hn]
  have e15 : aTurn S (qr S l (S 15 l)) 3 15 = S 15 := aTurn_o _ _ _ (by decide) (by decide)
  refine RM_ws ?_ (by rw [e15]; omega)
  have eo : ∀ r : Nat, r ≠ 34 → r ≠ 41 → aTurn S (qr S l (S 15 l)) 3 r = S r := fun r a b => aTurn_o _ _ _ a b
  have e41 : aTurn S (qr S l (S 15 l)) 3 41 4 = S 41 4 := by rw [aTurn_41, turn_val, if_neg (Ne.symm hs), if_neg (by decide)]; omega
  obtain ⟨⟨e48, e49, e50, e51, e52, e53, e54, e55, e56, e57, e58, e59, e60, e61, e62, e63, e64, e65, e66, e69, e70⟩, ⟨t1, t2, t3, t4, t5, t6, t7, t8, t9⟩, hT⟩ := hR
  refine ⟨?_, ?_, ?_⟩
  · unfold Rr
    simp only [mw_rs, mw_rn, eo, aTurn_34, ne_eq, not_false_eq_true, Nat.reduceEqDiff, Nat.reduceLT, Nat.reduceLeDiff, true_or, or_true, forall_const]
    simp only [e48, e49, e50, e51, e52, e53, e54, e55, e56, e57, e58, e59, e60, e61, e62, e63, e64, e65, e66, e69, e70, and_self]
  · unfold Rs
    simp only [mw_rn, eo, e41, ne_eq, not_false_eq_true, Nat.reduceEqDiff, Nat.reduceLT, Nat.reduceLeDiff, true_or, or_true, forall_const]
    exact ⟨t1, t2, t3, t4, t5, t6, t7, t8, t9⟩
  · simp only [mw_rn, eo, ne_eq, not_false_eq_true, Nat.reduceEqDiff, Nat.reduceLT, Nat.reduceLeDiff, true_or, or_true, forall_const]
    exact Rt_rw hT (fun k p k0 k4 => aTurnq _ _ k0 k4)
/-! who is first -/
theorem first_q {S M : Mem} {lo : Int → Int} {x B l : Int} (h : AI S lo x) (hR : RM S M B) (l0 : 0 ≤ l) (l4 : l < 4) : ∀ i, 0 ≤ i → i < S 4 0 → S 34 i = 1 → S 35 i = l → S 16 l < S 17 l ∧ (i = qr S l (S 16 l) ∨ M 67 (qr S l (S 16 l)) < M 67 i) := by
  intro i i0 i1 i2 i3
  obtain ⟨q1, q4, q5, q6, q7⟩ := h.2.2.2.2.2.2.2.2.2.2.2.1 l l0 l4
  rcases h.2.2.2.2.2.2.2.2.2.2.2.2.1 i i0 i1 with q | ⟨a1, a2, a3, p, a4, a5, a6⟩
  · omega
  · rw [i3] at a5 a6
    have hp := q4 p a4 a5
    rw [show (qr S) l p = i from a6] at hp
    have hqp : S 16 l ≤ p := by
      by_cases c1 : p < S 15 l
      · have := hp.2.1 c1; omega
      · by_cases c2 : p < S 16 l
        · have := (hp.2.2.1 (by omega) c2).1; omega
        · omega
    refine ⟨by omega, ?_⟩
    by_cases e : p = S 16 l
    · left; rw [← e]; exact a6.symm
    · right
      have := (hR.2.2.2.2 l l0 l4).2.1 (S 16 l) p (Int.le_refl _) (by omega) a5
      rw [show qr S l p = i from a6] at this
      exact this
theorem first_a {S M : Mem} {lo : Int → Int} {x B l : Int} (h : AI S lo x) (hR : RM S M B) (l0 : 0 ≤ l) (l4 : l < 4) (hlo : lo l = S 5 0 - 1) : ∀ i, 0 ≤ i → i < S 4 0 → S 34 i = 2 → S 35 i = l → S 38 i = S 5 0 → (S 15 l < S 16 l ∧ S 38 (qr S l (S 15 l)) = S 5 0) ∧ (i = qr S l (S 15 l) ∨ M 68 (qr S l (S 15 l)) < M 68 i) := by
  intro i i0 i1 i2 i3 i4
  obtain ⟨q1, q4, q5, q6, q7⟩ := h.2.2.2.2.2.2.2.2.2.2.2.1 l l0 l4
  rcases h.2.2.2.2.2.2.2.2.2.2.2.2.1 i i0 i1 with q | ⟨a1, a2, a3, p, a4, a5, a6⟩
  · omega
  · rw [i3] at a5 a6
    have hp := q4 p a4 a5
    rw [show (qr S) l p = i from a6] at hp
    have hwp : S 15 l ≤ p ∧ p < S 16 l := by
      by_cases c1 : p < S 15 l
      · have := hp.2.1 c1; omega
      · by_cases c2 : p < S 16 l
        · exact ⟨by omega, c2⟩
        · have := hp.2.2.2 (by omega); omega
    have hm := q6 (S 15 l) p (Int.le_refl _) hwp.1 hwp.2
    rw [show (qr S) l p = i from a6] at hm
    have hg := ((q4 (S 15 l) (by omega) (by omega)).2.2.1 (Int.le_refl _) (by omega)).2.1
    refine ⟨⟨by omega, by omega⟩, ?_⟩
    by_cases e : p = S 15 l
    · left; rw [← e]; exact a6.symm
    · right
      have := (hR.2.2.2.2 l l0 l4).2.2.2 (S 15 l) p (Int.le_refl _) (by omega) hwp.2
      rw [show qr S l p = i from a6] at this
      exact this
