/-! The reference's rows beside the state S: equal, and its stamps follow the queues. -/
def Rr (S M : Mem) : Prop := M 48 = S 7 ∧ M 49 = S 8 ∧ M 50 = S 9 ∧ M 51 = S 18 ∧ M 52 = S 19 ∧ M 53 = S 20 ∧ M 54 = S 21 ∧ M 55 = S 23 ∧ M 56 = S 24 ∧ M 57 = S 25 ∧
  M 58 = S 31 ∧ M 59 = S 32 ∧ M 60 = S 33 ∧ M 61 = S 34 ∧ M 62 = S 35 ∧ M 63 = S 36 ∧ M 64 = S 37 ∧ M 65 = S 38 ∧ M 66 = S 39 ∧ M 69 = S 40 ∧ M 70 = S 43
def Rs (S M : Mem) : Prop := M 47 0 = S 5 0 ∧ M 47 1 = S 1 0 ∧ M 47 10 = S 3 0 ∧ M 47 13 = S 3 1 ∧ M 47 14 = S 3 2 ∧ M 47 15 = S 5 1 ∧ M 47 16 = S 4 0 ∧ M 47 29 = S 41 4 ∧ M 47 31 = S 6 0
/-- stamps -/
def Rt (ws qs qe : Int → Int) (rw : Int → Int → Int) (q l : Int → Int) (s B : Int) : Prop :=
  (0 ≤ s ∧ s ≤ B) ∧ (∀ i, 0 ≤ q i ∧ q i ≤ s ∧ 0 ≤ l i ∧ l i ≤ s) ∧
  ∀ k, 0 ≤ k → k < 4 → (∀ p, qs k ≤ p → p < qe k → q (rw k p) < s) ∧ (∀ p p', qs k ≤ p → p < p' → p' < qe k → q (rw k p) < q (rw k p')) ∧ (∀ p, ws k ≤ p → p < qs k → l (rw k p) < s) ∧ (∀ p p', ws k ≤ p → p < p' → p' < qs k → l (rw k p) < l (rw k p'))
def RM (S M : Mem) (B : Int) : Prop := Rr S M ∧ Rs S M ∧ Rt (S 15) (S 16) (S 17) (qr S) (M 67) (M 68) (M 47 28) B
def Fr (M M' : Mem) : Prop := ∀ r, r < 47 → M' r = M r
theorem Fr.rf {M : Mem} : Fr M M := fun _ _ => rfl
theorem Fr.w {M M' : Mem} (h : Fr M M') {r : Nat} (hr : 47 ≤ r) {i v : Int} : Fr M (mw M' r i v) := fun q hq => by rw [mw_rn _ _ _ (by omega), h q hq]
theorem Fr.tr {M M' M'' : Mem} (h : Fr M M') (h2 : Fr M' M'') : Fr M M'' := fun q hq => (h2 q hq).trans (h q hq)
theorem Rt_B {ws qs qe : Int → Int} {rw : Int → Int → Int} {q l : Int → Int} {s B B' : Int} (h : Rt ws qs qe rw q l s B) (hB : B ≤ B') : Rt ws qs qe rw q l s B' := ⟨⟨h.1.1, by have := h.1.2; omega⟩, h.2⟩
theorem RM_B {S M : Mem} {B B' : Int} (h : RM S M B) (hB : B ≤ B') : RM S M B' := ⟨h.1, h.2.1, Rt_B h.2.2 hB⟩
/-- the rows that the reference knows -/
def kn (r : Nat) : Bool := r == 1 || r == 3 || r == 4 || r == 5 || r == 6 || r == 7 || r == 8 || r == 9 || r == 11 || r == 12 || r == 13 || r == 14 || r == 15 || r == 16 || r == 17 || r == 18 || r == 19 || r == 20 || r == 21 || r == 23 || r == 24 || r == 25 || r == 31 || r == 32 || r == 33 || r == 34 || r == 35 || r == 36 || r == 37 || r == 38 || r == 39 || r == 40 || r == 41 || r == 43
theorem RM_S {S S' M : Mem} {B : Int} (h : RM S M B) (hS : ∀ r, kn r = true → S' r = S r) : RM S' M B := by
  have hq : qr S' = qr S ∨ True := Or.inr trivial
  obtain ⟨h1, h2, h3⟩ := h
  refine ⟨?_, ?_, ?_⟩
  · unfold Rr
    rw [hS 7 rfl, hS 8 rfl, hS 9 rfl, hS 18 rfl, hS 19 rfl, hS 20 rfl, hS 21 rfl, hS 23 rfl, hS 24 rfl, hS 25 rfl, hS 31 rfl, hS 32 rfl, hS 33 rfl, hS 34 rfl, hS 35 rfl, hS 36 rfl, hS 37 rfl, hS 38 rfl, hS 39 rfl, hS 40 rfl, hS 43 rfl]
    exact h1
  · unfold Rs
    rw [hS 5 rfl, hS 1 rfl, hS 3 rfl, hS 4 rfl, hS 41 rfl, hS 6 rfl]
    exact h2
  · obtain ⟨a, b, c⟩ := h3
    rw [hS 15 rfl, hS 16 rfl, hS 17 rfl]
    refine ⟨a, b, fun k k0 k4 => ?_⟩
    have e : ∀ p, qr S' k p = qr S k p := fun p => by
      show S' (11 + k.toNat) p = S (11 + k.toNat) p
      have : k = 0 ∨ k = 1 ∨ k = 2 ∨ k = 3 := by omega
      rcases this with rfl | rfl | rfl | rfl
      · rw [show 11 + (0 : Int).toNat = 11 from rfl, hS 11 rfl]
      · rw [show 11 + (1 : Int).toNat = 12 from rfl, hS 12 rfl]
      · rw [show 11 + (2 : Int).toNat = 13 from rfl, hS 13 rfl]
      · rw [show 11 + (3 : Int).toNat = 14 from rfl, hS 14 rfl]
    simp only [e]
    exact c k k0 k4
theorem RM_M {S M M' : Mem} {B : Int} (h : RM S M B) (hM : ∀ r, 47 ≤ r → r < 71 → M' r = M r) : RM S M' B := by
  unfold RM Rr Rs at *
  rw [hM 47 (by omega) (by omega), hM 48 (by omega) (by omega), hM 49 (by omega) (by omega), hM 50 (by omega) (by omega), hM 51 (by omega) (by omega), hM 52 (by omega) (by omega), hM 53 (by omega) (by omega), hM 54 (by omega) (by omega), hM 55 (by omega) (by omega), hM 56 (by omega) (by omega), hM 57 (by omega) (by omega), hM 58 (by omega) (by omega), hM 59 (by omega) (by omega), hM 60 (by omega) (by omega), hM 61 (by omega) (by omega), hM 62 (by omega) (by omega), hM 63 (by omega) (by omega), hM 64 (by omega) (by omega), hM 65 (by omega) (by omega), hM 66 (by omega) (by omega), hM 67 (by omega) (by omega), hM 68 (by omega) (by omega), hM 69 (by omega) (by omega), hM 70 (by omega) (by omega)]
  exact h
/-! what its numbers may be -/
def MR (M : Mem) : Prop := (0 ≤ M 47 16 ∧ M 47 16 ≤ 400) ∧ (0 ≤ M 47 1 ∧ M 47 1 ≤ 4) ∧ (0 ≤ M 47 10 ∧ M 47 10 ≤ 16) ∧ (0 ≤ M 47 0 ∧ M 47 0 ≤ 1000000) ∧ (M 47 15 = 0 ∨ M 47 15 = 1) ∧ (0 ≤ M 47 13 ∧ M 47 13 ≤ 7) ∧ (0 ≤ M 47 14 ∧ M 47 14 ≤ 7) ∧ (M 47 31 = 0 ∨ M 47 31 = 1) ∧ (0 ≤ M 47 29 ∧ M 47 29 ≤ 400) ∧
  (∀ i, (0 ≤ M 58 i ∧ M 58 i < 16) ∧ (0 ≤ M 59 i ∧ M 59 i ≤ 400) ∧ (0 ≤ M 60 i ∧ M 60 i < 8) ∧ (0 ≤ M 61 i ∧ M 61 i ≤ 5) ∧ (-6 ≤ M 65 i ∧ M 65 i ≤ 2000000) ∧ (0 ≤ i → i < M 47 16 → -6 ≤ M 62 i ∧ M 62 i < 4)) ∧
  (∀ b, (-6 ≤ M 52 b ∧ M 52 b < 4) ∧ (-6 ≤ M 53 b ∧ M 53 b < 4) ∧ (M 54 b = 0 ∨ M 54 b = 1)) ∧
  (∀ l, (0 ≤ M 48 l ∧ M 48 l ≤ 8) ∧ (0 ≤ M 49 l ∧ M 49 l ≤ 30) ∧ (M 50 l = 0 ∨ M 50 l = 1)) ∧
  (∀ f, (0 ≤ M 56 f ∧ M 56 f ≤ 100) ∧ (-1 ≤ M 57 f ∧ M 57 f ≤ 7)) ∧
  (∀ i, rng (M 67 i) ∧ rng (M 68 i)) ∧ (0 ≤ M 47 28 ∧ M 47 28 ≤ 2000000000)
theorem MR_of {S M : Mem} {lo : Int → Int} {x B : Int} (h : AI S lo x) (hR : RM S M B) (hB : B ≤ 2000000000) : MR M := by
  obtain ⟨⟨e48, e49, e50, e51, e52, e53, e54, e55, e56, e57, e58, e59, e60, e61, e62, e63, e64, e65, e66, e69, e70⟩, ⟨t1, t2, t3, t4, t5, t6, t7, t8, t9⟩, ⟨s1, s2, s3⟩⟩ := hR
  have n4 := AI_ins h (s := 4) (by decide) (by decide)
  obtain ⟨ha, hl, hb, hn, hh, hf, ht, ks, kh, kf, kl, hq, hi, ho⟩ := id h
  unfold MR
  rw [e48, e49, e50, e52, e53, e54, e56, e57, e58, e59, e60, e61, e62, e65, t1, t2, t3, t4, t5, t6, t7, t8, t9]
  refine ⟨ha.2.2.1, ha.1, ha.2.1, ha.2.2.2.1, ha.2.2.2.2.1, ha.2.2.2.2.2.1, ha.2.2.2.2.2.2.1, ha.2.2.2.2.2.2.2, n4, fun i => ?_, fun b => ?_, fun l => ?_, fun f => ?_, fun i => ?_, ⟨s1.1, by omega⟩⟩
  · obtain ⟨q1, q2, q3, q4, q5⟩ := ht i
    refine ⟨⟨q1.1, q1.2.1⟩, q2, q3, q4, q5, fun a b => ?_⟩
    have hL := ha.1
    rcases hi i a b with q | q
    · omega
    · omega
  · have := AI_bk h b
    have h3 := (hb b).2.2.1
    exact ⟨this.1, this.2.1, h3⟩
  · have h1 := hl.2.2 l
    have h2 := hl.2.1 l
    omega
  · have h1 := hf f
    omega
  · have := s2 i
    unfold rng
    omega
/-! queueing -/
def mQueue (M : Mem) (i l : Int) : Mem := mw (mw (mw (mw M 61 i 1) 62 i l) 67 i (M 47 28)) 47 28 (M 47 28 + 1)
theorem Rt_enq {ws qs qe : Int → Int} {rw : Int → Int → Int} {q lv : Int → Int} {s B i l : Int} (h : Rt ws qs qe rw q lv s B) (l0 : 0 ≤ l) (l4 : l < 4) (hws : ∀ k, 0 ≤ k → k < 4 → 0 ≤ ws k ∧ ws k ≤ qs k ∧ qs k ≤ qe k) (hi : ∀ k p, 0 ≤ k → k < 4 → 0 ≤ p → p < qe k → rw k p ≠ i) : Rt ws qs (up1 qe l (qe l + 1)) (rw1 rw l (qe l) i) (up1 q i s) lv (s + 1) (B + 1) := by
  obtain ⟨h1, h2, h3⟩ := h
  refine ⟨⟨by omega, by omega⟩, fun j => ?_, fun k k0 k4 => ?_⟩
  · have := h2 j
    rw [up1_e]
    split <;> omega
  · obtain ⟨a1, a2, a3, a4⟩ := h3 k k0 k4
    have hk := hws k k0 k4
    by_cases e : k = l
    · subst e
      rw [up1_s]
      have old : ∀ p, 0 ≤ p → p < qe k → rw1 rw k (qe k) i k p = rw k p := fun p p0 p1 => by unfold rw1; rw [if_neg (by omega)]
      have new : rw1 rw k (qe k) i k (qe k) = i := by unfold rw1; rw [if_pos ⟨rfl, rfl⟩]
      refine ⟨fun p p0 p1 => ?_, fun p p' p0 p1 p2 => ?_, fun p p0 p1 => ?_, fun p p' p0 p1 p2 => ?_⟩
      · by_cases e2 : p = qe k
        · rw [e2, new, up1_s]; omega
        · rw [old p (by omega) (by omega), up1_n _ _ (hi k p k0 k4 (by omega) (by omega))]
          have := a1 p p0 (by omega)
          omega
      · by_cases e2 : p' = qe k
        · rw [e2, new, up1_s, old p (by omega) (by omega), up1_n _ _ (hi k p k0 k4 (by omega) (by omega))]
          exact a1 p p0 (by omega)
        · rw [old p (by omega) (by omega), old p' (by omega) (by omega), up1_n _ _ (hi k p k0 k4 (by omega) (by omega)), up1_n _ _ (hi k p' k0 k4 (by omega) (by omega))]
          exact a2 p p' p0 p1 (by omega)
      · rw [old p (by omega) (by omega)]
        have := a3 p p0 p1
        omega
      · rw [old p (by omega) (by omega), old p' (by omega) (by omega)]
        exact a4 p p' p0 p1 p2
    · rw [up1_n _ _ e]
      have old : ∀ p, rw1 rw l (qe l) i k p = rw k p := fun p => by unfold rw1; rw [if_neg (fun q => e q.1)]
      simp only [old]
      refine ⟨fun p p0 p1 => ?_, fun p p' p0 p1 p2 => ?_, fun p p0 p1 => ?_, a4⟩
      · rw [up1_n _ _ (hi k p k0 k4 (by omega) (by omega))]
        have := a1 p p0 p1
        omega
      · rw [up1_n _ _ (hi k p k0 k4 (by omega) (by omega)), up1_n _ _ (hi k p' k0 k4 (by omega) (by omega))]
        exact a2 p p' p0 p1 p2
      · have := a3 p p0 p1
        omega
theorem Rt_rw {ws qs qe : Int → Int} {rw rw' : Int → Int → Int} {q l : Int → Int} {s B : Int} (h : Rt ws qs qe rw q l s B) (hr : ∀ k p, 0 ≤ k → k < 4 → rw' k p = rw k p) : Rt ws qs qe rw' q l s B := by
  obtain ⟨a, b, c⟩ := h
  refine ⟨a, b, fun k k0 k4 => ?_⟩
  simp only [hr k _ k0 k4]
  exact c k k0 k4
theorem RM_enq {S M : Mem} {B i l : Int} (hR : RM S M B) (l0 : 0 ≤ l) (l4 : l < 4) (hws : ∀ k, 0 ≤ k → k < 4 → 0 ≤ S 15 k ∧ S 15 k ≤ S 16 k ∧ S 16 k ≤ S 17 k) (hi : ∀ k p, 0 ≤ k → k < 4 → 0 ≤ p → p < S 17 k → qr S k p ≠ i) (hs4 : S 34 i ≠ 4) : RM (aEnq S i l) (mQueue M i l) (B + 1) := by
  have eo : ∀ r : Nat, r ≠ 17 → r ≠ 34 → r ≠ 35 → r ≠ 41 → (r < 11 ∨ 15 ≤ r) → aEnq S i l r = S r := fun r q1 q2 q3 q4 q5 => aEnq_o S i l q1 q2 q3 q4 (by omega)
  have e41 : aEnq S i l 41 4 = S 41 4 := by rw [aEnq_41 _ _ l4, turn_val, if_neg (Ne.symm hs4), if_neg (by decide)]; omega
  obtain ⟨⟨e48, e49, e50, e51, e52, e53, e54, e55, e56, e57, e58, e59, e60, e61, e62, e63, e64, e65, e66, e69, e70⟩, ⟨t1, t2, t3, t4, t5, t6, t7, t8, t9⟩, hT⟩ := hR
  refine ⟨?_, ?_, ?_⟩
  · unfold Rr mQueue
    simp only [mw_rs, mw_rn, eo, aEnq_34 _ _ l4, aEnq_35 _ _ l4, ne_eq, not_false_eq_true, Nat.reduceEqDiff, Nat.reduceLT, Nat.reduceLeDiff, true_or, or_true, forall_const]
    simp only [e48, e49, e50, e51, e52, e53, e54, e55, e56, e57, e58, e59, e60, e61, e62, e63, e64, e65, e66, e69, e70, and_self]
  · unfold Rs mQueue
    simp only [mw_rs, mw_rn, eo, e41, ne_eq, not_false_eq_true, Nat.reduceEqDiff, Nat.reduceLT, Nat.reduceLeDiff, true_or, or_true, forall_const, up1_e]
    simp [t1, t2, t3, t4, t5, t6, t7, t8, t9]
  · unfold mQueue
    simp only [mw_rs, mw_rn, eo, aEnq_17 _ _ l4, ne_eq, not_false_eq_true, Nat.reduceEqDiff, Nat.reduceLT, Nat.reduceLeDiff, true_or, or_true, forall_const, up1_s]
    exact Rt_rw (Rt_enq hT l0 l4 hws hi) (fun k p k0 k4 => aEnq_qr S i l0 l4 k p k0 k4)
