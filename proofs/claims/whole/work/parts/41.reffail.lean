/-! The reference: a link fails. -/
theorem aLoK_st {S : Mem} {l : Int} (l0 : 0 ≤ l) (l4 : l < 4) : ∀ (k : Nat) (i : Int), ((∃ p, S 15 l ≤ p ∧ p < S 15 l + k ∧ qr S l p = i) → aLoK S l k 34 i = 5 ∧ aLoK S l k 39 i = S 5 0) ∧ ((∀ p, S 15 l ≤ p → p < S 15 l + k → qr S l p ≠ i) → aLoK S l k 34 i = S 34 i ∧ aLoK S l k 39 i = S 39 i)
  | 0, i => ⟨fun ⟨p, a, b, _⟩ => by omega, fun _ => ⟨rfl, rfl⟩⟩
  | k + 1, i => by
    obtain ⟨h1, h2⟩ := aLoK_st (S := S) l0 l4 k i
    have e15 : aLoK S l k 15 l = S 15 l + k := by rw [aLoK_15, up1_s]
    have eq : qr (aLoK S l k) l (aLoK S l k 15 l) = qr S l (S 15 l + k) := by
      show aLoK S l k (11 + l.toNat) (aLoK S l k 15 l) = S (11 + l.toNat) (S 15 l + k)
      rw [e15, aLoK_o S l (by omega) (by omega) (by omega) (by omega) (by omega) (by omega)]
    have e5 : aLoK S l k 5 = S 5 := aLoK_o S l (by decide) (by decide) (by decide) (by decide) (by decide) (by decide) k
    rw [aLoK, aLo_34, aLo_39, eq, e5]
    by_cases e : i = qr S l (S 15 l + k)
    · subst e
      rw [up1_s, up1_s]
      exact ⟨fun _ => ⟨rfl, rfl⟩, fun q => absurd rfl (q (S 15 l + k) (by omega) (by push_cast; omega))⟩
    · rw [up1_n _ _ e, up1_n _ _ e]
      refine ⟨fun ⟨p, a, b, c⟩ => h1 ⟨p, a, ?_, c⟩, fun q => h2 (fun p a b => q p a (by push_cast; omega))⟩
      push_cast at b
      by_cases e2 : p = S 15 l + k
      · subst e2; exact absurd c.symm e
      · omega
def goneP (S : Mem) (l : Int) : Int → Bool := fun i => decide (S 35 i = l ∧ (S 34 i = 1 ∨ S 34 i = 2))
theorem lose_st {S : Mem} {lo : Int → Int} {x l : Int} (h : AI S lo x) (l0 : 0 ≤ l) (l4 : l < 4) (i : Int) : ((0 ≤ i ∧ i < S 4 0 ∧ goneP S l i = true) → aLose S l 34 i = 5 ∧ aLose S l 39 i = S 5 0) ∧ (¬ (0 ≤ i ∧ i < S 4 0 ∧ goneP S l i = true) → aLose S l 34 i = S 34 i ∧ aLose S l 39 i = S 39 i) := by
  obtain ⟨q1, q4, q5, q6, q7⟩ := h.2.2.2.2.2.2.2.2.2.2.2.1 l l0 l4
  obtain ⟨h1, h2⟩ := aLoK_st (S := S) l0 l4 (loN S l) i
  have hN : ((loN S l : Nat) : Int) = S 17 l - S 15 l := by unfold loN; omega
  refine ⟨fun ⟨i0, i1, i2⟩ => h1 ?_, fun hc => h2 (fun p a b e => hc ?_)⟩
  · unfold goneP at i2
    simp only [decide_eq_true_eq] at i2
    rcases h.2.2.2.2.2.2.2.2.2.2.2.2.1 i i0 i1 with q | ⟨a1, a2, a3, p, a4, a5, a6⟩
    · omega
    · rw [i2.1] at a5 a6
      have hp := q4 p a4 a5
      rw [show (qr S) l p = i from a6] at hp
      refine ⟨p, ?_, by omega, a6⟩
      by_cases c : p < S 15 l
      · have := hp.2.1 c; omega
      · omega
  · have hp := q4 p (by omega) (by omega)
    rw [show (qr S) l p = i from e] at hp
    refine ⟨hp.1.1, hp.1.2.1, ?_⟩
    unfold goneP
    simp only [decide_eq_true_eq]
    refine ⟨hp.1.2.2, ?_⟩
    by_cases c : p < S 16 l
    · exact Or.inr (hp.2.2.1 a c).1
    · exact Or.inl (hp.2.2.2 (by omega))
theorem RM_lose {S M M' : Mem} {lo : Int → Int} {x B l : Int} (h : AI S lo x) (l0 : 0 ≤ l) (l4 : l < 4) (hR : RM S M B) (hM : ∀ r, r ≠ 61 → r ≠ 66 → M' r = M r) (h61 : M' 61 = aLose S l 34) (h66 : M' 66 = aLose S l 39) : RM (aLose S l) M' B := by
  obtain ⟨q1, q4, q5, q6, q7⟩ := h.2.2.2.2.2.2.2.2.2.2.2.1 l l0 l4
  have hN : ((loN S l : Nat) : Int) = S 17 l - S 15 l := by unfold loN; omega
  have eo : ∀ r, r ≠ 34 → r ≠ 41 → r ≠ 39 → r ≠ 28 → r ≠ 16 → r ≠ 15 → aLose S l r = S r := fun r a b c d e f => aLoK_o S l a b c d e f _
  have hA : AI (aLose S l) lo x := AI_loK h l0 l4 (loN S l) (by omega)
  have e41 : aLose S l 41 4 = S 41 4 := by
    rw [hA.2.2.2.2.2.2.2.1 4 (by decide) (by decide), h.2.2.2.2.2.2.2.1 4 (by decide) (by decide), eo 4 (by decide) (by decide) (by decide) (by decide) (by decide) (by decide)]
    refine ct_cong (fun j j0 j1 => ?_)
    obtain ⟨a1, a2⟩ := lose_st h l0 l4 j
    by_cases c : 0 ≤ j ∧ j < S 4 0 ∧ goneP S l j = true
    · have c2 := c.2.2
      unfold goneP at c2
      simp only [decide_eq_true_eq] at c2
      rw [(a1 c).1]
      rcases c2.2 with w | w
      · rw [w]; decide
      · rw [w]; decide
    · rw [(a2 c).1]
  have e15 : aLose S l 15 = up1 (S 15) l (S 17 l) := by
    show aLoK S l (loN S l) 15 = _
    rw [aLoK_15, hN]
    congr 1
    omega
  have e16 : aLose S l 16 = up1 (S 16) l (S 17 l) := by
    show aLoK S l (loN S l) 16 = _
    rw [aLoK_16 q1.2.1, hN]
    congr 1
    split <;> omega
  obtain ⟨⟨e48, e49, e50, e51, e52, e53, e54, e55, e56, e57, e58, e59, e60, e61, e62, e63, e64, e65, e66, e69, e70⟩, ⟨t1, t2, t3, t4, t5, t6, t7, t8, t9⟩, hT⟩ := hR
  refine ⟨?_, ?_, ?_⟩
  · unfold Rr
    simp only [h61, h66, hM, eo, ne_eq, not_false_eq_true, Nat.reduceEqDiff, Nat.reduceLT, Nat.reduceLeDiff, true_or, or_true, forall_const]
    simp only [e48, e49, e50, e51, e52, e53, e54, e55, e56, e57, e58, e59, e60, e62, e63, e64, e65, e69, e70, and_self]
  · unfold Rs
    simp only [hM, eo, e41, ne_eq, not_false_eq_true, Nat.reduceEqDiff, Nat.reduceLT, Nat.reduceLeDiff, true_or, or_true, forall_const]
    exact ⟨t1, t2, t3, t4, t5, t6, t7, t8, t9⟩
  · simp only [hM, eo, ne_eq, not_false_eq_true, Nat.reduceEqDiff, Nat.reduceLT, Nat.reduceLeDiff, true_or, or_true, forall_const]
    rw [e15, e16]
    obtain ⟨g1, g2, g3⟩ := hT
    refine ⟨g1, g2, fun k k0 k4 => ?_⟩
    have er : ∀ p, qr (aLose S l) k p = qr S k p := fun p => by
      show aLose S l (11 + k.toNat) p = _
      rw [eo _ (by omega) (by omega) (by omega) (by omega) (by omega) (by omega)]
    simp only [er]
    by_cases e : k = l
    · subst e
      rw [up1_s, up1_s]
      exact ⟨fun p a b => by omega, fun p p' a b c => by omega, fun p a b => by omega, fun p p' a b c => by omega⟩
    · rw [up1_n _ _ e, up1_n _ _ e]
      exact g3 k k0 k4
def r50 (S M : Mem) : Mem := fun r => if r = 50 then S 9 else M r
theorem r50_o {S M : Mem} {r : Nat} (h : r ≠ 50) : r50 S M r = M r := by unfold r50; rw [if_neg h]
theorem r50_s {S M : Mem} : r50 S M 50 = S 9 := by unfold r50; rw [if_pos rfl]
theorem RM_un {S M : Mem} {B l v : Int} (hR : RM (mw S 9 l v) M B) : RM S (r50 S M) B := by
  obtain ⟨⟨e48, e49, e50, e51, e52, e53, e54, e55, e56, e57, e58, e59, e60, e61, e62, e63, e64, e65, e66, e69, e70⟩, ⟨t1, t2, t3, t4, t5, t6, t7, t8, t9⟩, hT⟩ := hR
  simp only [mw_rn, ne_eq, not_false_eq_true, Nat.reduceEqDiff, Nat.reduceLT, Nat.reduceLeDiff, true_or, or_true, forall_const] at e48 e49 e51 e52 e53 e54 e55 e56 e57 e58 e59 e60 e61 e62 e63 e64 e65 e66 e69 e70 t1 t2 t3 t4 t5 t6 t7 t8 t9 hT
  refine ⟨?_, ?_, ?_⟩
  · unfold Rr
    simp only [r50_o, r50_s, ne_eq, not_false_eq_true, Nat.reduceEqDiff, Nat.reduceLT, Nat.reduceLeDiff, true_or, or_true, forall_const]
    simp only [e48, e49, e51, e52, e53, e54, e55, e56, e57, e58, e59, e60, e61, e62, e63, e64, e65, e66, e69, e70, and_self]
  · unfold Rs
    simp only [r50_o, ne_eq, not_false_eq_true, Nat.reduceEqDiff, Nat.reduceLT, Nat.reduceLeDiff, true_or, or_true, forall_const]
    exact ⟨t1, t2, t3, t4, t5, t6, t7, t8, t9⟩
  · simp only [r50_o, ne_eq, not_false_eq_true, Nat.reduceEqDiff, Nat.reduceLT, Nat.reduceLeDiff, true_or, or_true, forall_const]
    exact Rt_rw hT (fun k p k0 k4 => (mwq (by omega) _ _ k0 k4).symm)
theorem RM_lose9 {S M M' : Mem} {lo : Int → Int} {x B l v : Int} (h : AI S lo x) (l0 : 0 ≤ l) (l4 : l < 4) (hR : RM (mw S 9 l v) M B) (hM : ∀ r, r ≠ 61 → r ≠ 66 → M' r = M r) (h61 : M' 61 = aLose S l 34) (h66 : M' 66 = aLose S l 39) : RM (mw (aLose S l) 9 l v) M' B := by
  have e50 : M 50 = up1 (S 9) l v := by rw [hR.e50, mw_rs]
  have h1 : RM (aLose S l) (r50 S M') B := RM_lose h l0 l4 (RM_un hR) (fun r a b => by
    by_cases e : r = 50
    · subst e; rw [r50_s, r50_s]
    · rw [r50_o e, r50_o e, hM r a b]) (by rw [r50_o (by decide), h61]) (by rw [r50_o (by decide), h66])
  have h2 := RM_w (i := l) (v := v) h1 (rs := 9) (rm := 50) (by simp)
  have : mw (r50 S M') 50 l v = M' := mem_ext (fun r => by
    by_cases e : r = 50
    · subst e; rw [mw_rs, r50_s, hM 50 (by decide) (by decide), e50]
    · rw [mw_rn _ _ _ e, r50_o e])
  rw [this] at h2
  exact h2
theorem lose_ct {S : Mem} {lo : Int → Int} {x l : Int} (h : AI S lo x) (l0 : 0 ≤ l) (l4 : l < 4) : ct (goneP S l) (S 4 0).toNat = S 17 l - S 15 l := by
  obtain ⟨k1, k2, k3⟩ := h.2.2.2.2.2.2.2.2.2.2.1 l l0 l4
  have : ct (fun j => decide (S 34 j = 1 ∧ S 35 j = l)) (S 4 0).toNat + ct (fun j => decide (S 34 j = 2 ∧ S 35 j = l)) (S 4 0).toNat = ct (goneP S l) (S 4 0).toNat := ct_or (fun i _ _ => by
    unfold goneP bi
    by_cases a : S 35 i = l <;> by_cases b : S 34 i = 1 <;> by_cases c : S 34 i = 2 <;> simp_all)
  omega
def lsM (S M : Mem) (l : Int) (k : Nat) : Mem := fun r => if r = 61 then (fun i => if 0 ≤ i ∧ i < k ∧ goneP S l i = true then 5 else S 34 i) else if r = 66 then (fun i => if 0 ≤ i ∧ i < k ∧ goneP S l i = true then S 5 0 else S 39 i) else M r
theorem lsM_no {S M : Mem} {l : Int} {k : Nat} (hg : ¬ goneP S l k = true) : lsM S M l (k + 1) = lsM S M l k := by
  funext r i
  unfold lsM
  have : (0 ≤ i ∧ i < ((k + 1 : Nat) : Int) ∧ goneP S l i = true) ↔ (0 ≤ i ∧ i < (k : Int) ∧ goneP S l i = true) := by
    constructor
    · rintro ⟨a, b, c⟩
      by_cases e : i = k
      · subst e; exact absurd c hg
      · exact ⟨a, by push_cast at b; omega, c⟩
    · rintro ⟨a, b, c⟩
      exact ⟨a, by push_cast; omega, c⟩
  by_cases r1 : r = 61
  · subst r1
    simp only [if_true, this]
  · by_cases r2 : r = 66
    · subst r2
      simp only [Nat.reduceEqDiff, if_false, if_true, this]
    · simp only [if_neg r1, if_neg r2]
theorem lsM_yes {S M : Mem} {l : Int} {k : Nat} (hg : goneP S l k = true) : lsM S M l (k + 1) = mw (mw (lsM S M l k) 61 k 5) 66 k (S 5 0) := by
  refine mem_ext (fun r => ?_)
  by_cases r1 : r = 66
  · subst r1
    rw [mw_rs, mw_rn _ _ _ (by decide)]
    funext i
    rw [up1_e]
    unfold lsM
    simp only [Nat.reduceEqDiff, if_false, if_true]
    by_cases e : i = k
    · subst e
      rw [if_pos ⟨by omega, by push_cast; omega, hg⟩, if_pos rfl]
    · rw [if_neg e]
      have : (0 ≤ i ∧ i < ((k + 1 : Nat) : Int) ∧ goneP S l i = true) ↔ (0 ≤ i ∧ i < (k : Int) ∧ goneP S l i = true) := by push_cast; constructor <;> (rintro ⟨a, b, c⟩; exact ⟨a, by omega, c⟩)
      simp only [this]
  · by_cases r2 : r = 61
    · subst r2
      rw [mw_rn _ _ _ (by decide), mw_rs]
      funext i
      rw [up1_e]
      unfold lsM
      simp only [if_true]
      by_cases e : i = k
      · subst e
        rw [if_pos ⟨by omega, by push_cast; omega, hg⟩, if_pos rfl]
      · rw [if_neg e]
        have : (0 ≤ i ∧ i < ((k + 1 : Nat) : Int) ∧ goneP S l i = true) ↔ (0 ≤ i ∧ i < (k : Int) ∧ goneP S l i = true) := by push_cast; constructor <;> (rintro ⟨a, b, c⟩; exact ⟨a, by omega, c⟩)
        simp only [this]
    · rw [mw_rn _ _ _ r1, mw_rn _ _ _ r2]
      unfold lsM
      simp only [if_neg r1, if_neg r2]
theorem lsM_o {S M : Mem} {l : Int} {k r : Nat} (h1 : r ≠ 61) (h2 : r ≠ 66) : lsM S M l k r = M r := by unfold lsM; simp only [if_neg h1, if_neg h2]
theorem lsM_61 {S M : Mem} {l : Int} {k : Nat} {i : Int} (hi : k ≤ i) : lsM S M l k 61 i = S 34 i := by
  unfold lsM
  simp only [if_true]
  rw [if_neg (by omega)]
theorem lose_loopM {d : Nat} {S M : Mem} {lo : Int → Int} {x B l v : Int} {P : PV → Mem → Prop} (h : AI S lo x) (l0 : 0 ≤ l) (l4 : l < 4) (hR : RM (mw S 9 l v) M B) {z4 z5 : PV}
    (kk : ∀ (M' : Mem) (z3 : PV), RM (mw (aLose S l) 9 l v) M' B → Fr M M' → gV mX7_fail (d + 3) P 97 [vR 47, vI l, vI (S 17 l - S 15 l), z3, z4, z5] [] M') :
    ∀ (n k : Nat), (k : Int) + n = S 4 0 → gV mX7_fail (d + 3) P 38 [vR 47, vI l, vI (ct (goneP S l) k), vI k, z4, z5] [vI (S 4 0), vI k] (lsM S M l k) := by
  have h4 := h.1.2.2.1
  intro n
  induction n with
  | zero =>
    intro k hk
    have e : k = (S 4 0).toNat := by omega
    subst e
    have ec : (((S 4 0).toNat : Nat) : Int) = S 4 0 := by omega
    rw [lose_ct h l0 l4]
    refine gV_it rfl (by unfold rng; omega) (by omega) ?_
    refine kk _ _ (RM_lose9 h l0 l4 hR (fun r a b => lsM_o a b) ?_ ?_) (fun r hr => lsM_o (by omega) (by omega))
    · funext i
      obtain ⟨a1, a2⟩ := lose_st h l0 l4 i
      unfold lsM
      simp only [if_true, ec]
      split
      · rename_i c; rw [(a1 c).1]
      · rename_i c; rw [(a2 c).1]
    · funext i
      obtain ⟨a1, a2⟩ := lose_st h l0 l4 i
      unfold lsM
      simp only [Nat.reduceEqDiff, if_false, if_true, ec]
      split
      · rename_i c; rw [(a1 c).2]
      · rename_i c; rw [(a2 c).2]
  | succ n ih =>
    intro k hk
    have ih2 := ih (k + 1) (by push_cast; omega)
    have ht := (h.2.2.2.2.2.2.1 k).2.2.2.1
    have hlk : -6 ≤ S 35 k ∧ S 35 k < 4 := by
      have hL := h.1.1
      rcases h.2.2.2.2.2.2.2.2.2.2.2.2.1 k (by omega) (by omega) with q | q
      · omega
      · omega
    rw [ct_s _ k] at ih2
    have e62 : lsM S M l k 62 k = S 35 k := by rw [lsM_o (by decide) (by decide), hR.e62, mw_rn _ _ _ (by decide)]
    have e61 : lsM S M l k 61 k = S 34 k := lsM_61 (by omega)
    have e16 : lsM S M l k 47 16 = S 4 0 := by rw [lsM_o (by decide) (by decide), hR.s16, mw_rn _ _ _ (by decide)]
    have e0 : lsM S M l k 47 0 = S 5 0 := by rw [lsM_o (by decide) (by decide), hR.s0, mw_rn _ _ _ (by decide)]
    have no : ¬ goneP S l k = true → gV mX7_fail (d + 3) P 91 [vR 47, vI l, vI (ct (goneP S l) k), vI k, z4, z5] [] (lsM S M l k) := by
      intro hg
      rw [if_neg hg, Int.add_zero, lsM_no hg] at ih2
      repeat (refine gV_s rfl (by first | exact trivial | omega) ?_)
      rw [e16]
      exact ih2
    have yes : goneP S l k = true → gV mX7_fail (d + 3) P 71 [vR 47, vI l, vI (ct (goneP S l) k), vI k, z4, z5] [] (lsM S M l k) := by
      intro hg
      rw [if_pos hg, lsM_yes hg] at ih2
      repeat (refine gV_s rfl (by first | exact trivial | omega) ?_)
      simp only [mw_rn, ne_eq, not_false_eq_true, Nat.reduceEqDiff, Nat.reduceLT, Nat.reduceLeDiff, true_or, or_true, forall_const]
      rw [e0, e16]
      exact ih2
    refine gV_in rfl (by unfold rng; omega) (by omega) ?_
    repeat (refine gV_s rfl (by first | exact trivial | omega) ?_)
    rw [e62]
    refine gV_i rfl (by unfold rng; omega) (fun h1 => ?_) (fun h1 => ?_)
    · repeat (refine gV_s rfl (by first | exact trivial | omega) ?_)
      rw [e61]
      refine gV_i rfl (by unfold rng; omega) (fun h2 => ?_) (fun h2 => ?_)
      · exact yes (by unfold goneP; simp [h1, h2])
      · repeat (refine gV_s rfl (by first | exact trivial | omega) ?_)
        rw [e61]
        refine gV_i rfl (by unfold rng; omega) (fun h3 => ?_) (fun h3 => ?_)
        · exact yes (by unfold goneP; simp [h1, h3])
        · exact no (by unfold goneP; simp [h2, h3])
    · exact no (by unfold goneP; simp [h1])
theorem can_loopF {d : Nat} {S M0 : Mem} {lo : Int → Int} {B l c : Int} {P : PV → Mem → Prop} (h : AI S lo l) (l0 : 0 ≤ l) (l4 : l < 4) (hd : S 9 l = 0) {z5 : PV}
    (kk : ∀ (M' : Mem) (z3 : Int) (z4 : PV), RM (aCan S l 8) M' (B + 3200) → Fr M0 M' → gV mX7_fail (d + 3) P 143 [vR 47, vI l, vI c, vI z3, z4, z5] [] M') :
    ∀ (n k : Nat) (M : Mem) (z4 : PV), k + n = 8 → RM (aCan S l k) M (B + 400 * k) → Fr M0 M → gV mX7_fail (d + 3) P 102 [vR 47, vI l, vI c, vI k, z4, z5] [vI 8, vI k] M := by
  intro n
  induction n with
  | zero =>
    intro k M z4 hk hR hF
    have e : k = 8 := by omega
    subst e
    exact gV_it rfl (by unfold rng; omega) (by omega) (kk M _ _ (RM_B hR (by omega)) hF)
  | succ n ih =>
    intro k M z4 hk hR hF
    obtain ⟨i1, i2, i3, i4, i5, i6⟩ := AI_can h l0 hd k (by omega)
    have hbk := AI_bk i1 k
    have hJ := i1.2.2.1 k
    have e53 : M 53 k = aCan S l k 20 k := by rw [hR.e53]
    have step : aCan S l (k + 1) = if aCan S l k 20 k = l then aCancel (aCan S l k) k else aCan S l k := rfl
    have nxt : ∀ (M' : Mem) (z4 : PV), RM (aCan S l (k + 1)) M' (B + 400 * k + 400) → Fr M0 M' → gV mX7_fail (d + 3) P 137 [vR 47, vI l, vI c, vI k, z4, z5] [] M' := by
      intro M' z4 hR' hF'
      repeat (refine gV_s rfl (by first | exact trivial | omega) ?_)
      exact ih (k + 1) M' _ (by omega) (by rw [show B + 400 * ((k + 1 : Nat) : Int) = B + 400 * k + 400 by push_cast; omega]; exact hR') hF'
    rw [step] at nxt
    refine gV_in rfl (by unfold rng; omega) (by omega) ?_
    repeat (refine gV_s rfl (by first | exact trivial | omega) ?_)
    rw [e53]
    refine gV_i rfl (by unfold rng; omega) (fun h1 => ?_) (fun h1 => ?_)
    · rw [if_pos h1] at nxt
      have hu : aCan S l k 19 k = -6 ∨ aCan S l k 9 (aCan S l k 19 k) = 1 := by
        rcases hJ.1 with q | ⟨q1, q2, q3 | q3⟩
        · exact Or.inl q
        · exact Or.inr q3
        · rcases hJ.2.1 with w | w
          · omega
          · have := w.2.2.2.2
            omega
      have hE1 : Ex [19, 20, 21, 23] (mw (mw (aCan S l k) 20 k (-6)) 21 k 0) (aCan S l k) := Ex.skip1 (Ex.skip1 Ex.rf (by decide)) (by decide)
      repeat (refine gV_s rfl (by first | exact trivial | omega) ?_)
      refine gV_cV (ok_lets (d := d + 1) (b := (k : Int)) (B := B + 400 * k) (S := mw (mw (aCan S l k) 20 k (-6)) 21 k 0) i1 hE1 (by omega) (by omega) (by rw [mw_rn _ _ _ (by decide), mw_rn _ _ _ (by decide)]; exact hu) (RM_w (RM_w hR (by simp)) (by simp))) mX7_lets_ok sX7_X7_lets rfl rfl rfl rfl rfl rfl ?_
      rintro r M2 ⟨rfl, hR2, hF2⟩
      refine gV_s rfl trivial ?_
      refine nxt M2 _ ?_ (Fr.tr (Fr.w (Fr.w hF (by decide)) (by decide)) hF2)
      unfold aCancel
      rw [rel_lets]
      exact hR2
    · rw [if_neg h1] at nxt
      exact nxt M _ (RM_B hR (by omega)) hF
theorem upF_cong {S T : Mem} (h9 : T 9 = S 9) (h19 : T 19 = S 19) : ∀ k, upF T k = upF S k
  | 0 => rfl
  | k + 1 => by unfold upF; rw [upF_cong h9 h19 k, h9, h19]
theorem best_loop {d : Nat} {T M : Mem} {lo : Int → Int} {x B l b c : Int} {P : PV → Mem → Prop} (h : AI T lo x) (hR : RM T M B) (hB : B ≤ 2000000000)
    (kk : ∀ z5 : PV, gV mX7_fail (d + 3) P 222 [vR 47, vI l, vI c, vI b, vI (upF T (T 1 0).toNat), z5] [] M) :
    ∀ (n k : Nat), (k : Int) + n = T 1 0 → gV mX7_fail (d + 3) P 174 [vR 47, vI l, vI c, vI b, vI (upF T k), vI k] [vI (T 1 0), vI k] M := by
  have hL := h.1.1
  have hMM := MR_of h hR hB
  intro n
  induction n with
  | zero =>
    intro k hk
    have e : k = (T 1 0).toNat := by omega
    subst e
    exact gV_it rfl (by unfold rng; omega) (by omega) (kk _)
  | succ n ih =>
    intro k hk
    have ih2 := ih (k + 1) (by push_cast; omega)
    have step : upF T (k + 1) = if T 9 k = 1 ∧ (upF T k < 0 ∨ ct (is_ (T 19) k) 8 < ct (is_ (T 19) (upF T k)) 8) then (k : Int) else upF T k := rfl
    rw [step] at ih2
    have hup := h.2.1.2.1 k
    have e50 : M 50 k = T 9 k := by rw [hR.e50]
    have hin := upF_in T k
    have n1 := ct_nn (is_ (T 19) k) 8
    have n2 := ct_nn (is_ (T 19) (upF T k)) 8
    have stay : ¬ (T 9 k = 1 ∧ (upF T k < 0 ∨ ct (is_ (T 19) k) 8 < ct (is_ (T 19) (upF T k)) 8)) → gV mX7_fail (d + 3) P 212 [vR 47, vI l, vI c, vI b, vI (upF T k), vI k] [] M := by
      intro hc
      rw [if_neg hc] at ih2
      repeat (refine gV_s rfl (by first | exact trivial | omega) ?_)
      rw [hR.s1]
      exact ih2
    have go : (T 9 k = 1 ∧ (upF T k < 0 ∨ ct (is_ (T 19) k) 8 < ct (is_ (T 19) (upF T k)) 8)) → gV mX7_fail (d + 3) P 207 [vR 47, vI l, vI c, vI b, vI (upF T k), vI k] [] M := by
      intro hc
      rw [if_pos hc] at ih2
      repeat (refine gV_s rfl (by first | exact trivial | omega) ?_)
      rw [hR.s1]
      exact ih2
    refine gV_in rfl (by unfold rng; omega) (by omega) ?_
    repeat (refine gV_s rfl (by first | exact trivial | omega) ?_)
    rw [e50]
    refine gV_i rfl (by unfold rng; omega) (fun h1 => ?_) (fun h1 => ?_)
    · exact stay (by omega)
    · have hu : T 9 k = 1 := by omega
      repeat (refine gV_s rfl (by first | exact trivial | omega) ?_)
      refine gV_i rfl (by unfold rng; omega) (fun h2 => ?_) (fun h2 => ?_)
      · exact go ⟨hu, Or.inl h2⟩
      · repeat (refine gV_s rfl (by first | exact trivial | omega) ?_)
        refine gV_cV (ok_bucketsOn (d := d + 2) (M := M) (l := k) (P := fun r M' => r = vI (ct (is_ (T 19) k) 8) ∧ M' = M) hMM (by unfold rng; omega) ⟨by rw [hR.e52], rfl⟩) mX7_bucketsOn_ok sX7_X7_bucketsOn rfl rfl rfl rfl rfl rfl ?_
        rintro r M' ⟨rfl, rfl⟩
        repeat (refine gV_s rfl (by first | exact trivial | omega) ?_)
        refine gV_cV (ok_bucketsOn (d := d + 2) (M := M') (l := upF T k) (P := fun r M2 => r = vI (ct (is_ (T 19) (upF T k)) 8) ∧ M2 = M') hMM (by unfold rng; omega) ⟨by rw [hR.e52], rfl⟩) mX7_bucketsOn_ok sX7_X7_bucketsOn rfl rfl rfl rfl rfl rfl ?_
        rintro r M2 ⟨rfl, rfl⟩
        refine gV_i rfl (by unfold rng; omega) (fun h3 => ?_) (fun h3 => ?_)
        · exact stay (by omega)
        · exact go ⟨hu, Or.inr (by omega)⟩
theorem mvs_loopF {d : Nat} {S M0 : Mem} {lo : Int → Int} {B l c : Int} {P : PV → Mem → Prop} (h : AI S lo l) (l0 : 0 ≤ l) (l4 : l < 4) (hd : S 9 l = 0) (ht : ∀ b, 0 ≤ b → b < 8 → S 20 b ≠ l) (hB : B + 3200 ≤ 2000000000)
    (hP : ∀ M', RM (aMvs S l 8) M' (B + 3200) → Fr M0 M' → P (vI c) M') :
    ∀ (n k : Nat) (M : Mem) (z4 z5 : PV), k + n = 8 → RM (aMvs S l k) M (B + 400 * k) → Fr M0 M → gV mX7_fail (d + 3) P 148 [vR 47, vI l, vI c, vI k, z4, z5] [vI 8, vI k] M := by
  intro n
  induction n with
  | zero =>
    intro k M z4 z5 hk hR hF
    have e : k = 8 := by omega
    subst e
    refine gV_it rfl (by unfold rng; omega) (by omega) ?_
    repeat (refine gV_s rfl (by first | exact trivial | omega) ?_)
    exact gV_ret rfl trivial (hP M (RM_B hR (by omega)) hF)
  | succ n ih =>
    intro k M z4 z5 hk hR hF
    obtain ⟨i1, i2, i3, i4, i5, i6⟩ := AI_mvs h l0 hd ht k (by omega)
    have hL := i1.1.1
    have hbk := AI_bk i1 k
    have hJ := i1.2.2.1 k
    have e52 : M 52 k = aMvs S l k 19 k := by rw [hR.e52]
    have step : aMvs S l (k + 1) = if aMvs S l k 19 k = l then aMv1 (aMvs S l k) k else aMvs S l k := rfl
    have nxt : ∀ (M' : Mem) (z4 z5 : PV), RM (aMvs S l (k + 1)) M' (B + 400 * k + 400) → Fr M0 M' → gV mX7_fail (d + 3) P 270 [vR 47, vI l, vI c, vI k, z4, z5] [] M' := by
      intro M' z4 z5 hR' hF'
      repeat (refine gV_s rfl (by first | exact trivial | omega) ?_)
      exact ih (k + 1) M' _ _ (by omega) (by rw [show B + 400 * ((k + 1 : Nat) : Int) = B + 400 * k + 400 by push_cast; omega]; exact hR') hF'
    rw [step] at nxt
    refine gV_in rfl (by unfold rng; omega) (by omega) ?_
    repeat (refine gV_s rfl (by first | exact trivial | omega) ?_)
    rw [e52]
    refine gV_i rfl (by unfold rng; omega) (fun h1 => ?_) (fun h1 => ?_)
    · rw [if_pos h1] at nxt
      generalize hT : aMvs S l k = T at i1 i2 i3 i4 i5 i6 hR nxt hL hbk hJ h1
      have hd2 : T 9 l = 0 := by rw [i2]; exact hd
      have er : ∀ r, r ≠ 20 → mw T 20 k (-6) r = T r := fun r a => mw_rn _ _ _ a
      have ek : upF (mw T 20 k (-6)) (T 1 0).toNat = upF T (T 1 0).toNat := upF_cong (er 9 (by decide)) (er 19 (by decide)) _
      have hin := upF_in T (T 1 0).toNat
      generalize hK : upF T (T 1 0).toNat = g at ek hin
      obtain ⟨j1, j2⟩ := AI_mv2 i1 (b := (k : Int)) (by omega) (by omega) l0 hd2 ek
      have e1m : aMv1 T k = aSettle (mw (mw (mw T 20 k (-6)) 19 k g) 21 k (if g = -6 then 0 else 1)) k := by
        unfold aMv1
        dsimp only
        rw [er 1 (by decide), ek]
      rw [e1m] at nxt
      have cg : goal (mw (mw (mw T 20 k (-6)) 19 k g) 21 k (if g = -6 then 0 else 1)) k = g := by
        unfold goal
        simp only [mw_rs, mw_rn, ne_eq, not_false_eq_true, Nat.reduceEqDiff, Nat.reduceLT, Nat.reduceLeDiff, true_or, or_true, forall_const, up1_s, if_true]
      have hRw : ∀ v : Int, v = (if g = -6 then 0 else 1) → RM (mw (mw (mw T 20 k (-6)) 19 k g) 21 k (if g = -6 then 0 else 1)) (mw (mw (mw M 52 k g) 53 k (-6)) 54 k v) (B + 400 * k) := by
        intro v hv
        rw [hv, mw_comm _ _ _ _ _ (show (20 : Nat) ≠ 19 by decide)]
        exact RM_w (RM_w (RM_w hR (by simp)) (by simp)) (by simp)
      have hFw : ∀ v : Int, Fr M0 (mw (mw (mw M 52 k g) 53 k (-6)) 54 k v) := fun v => Fr.w (Fr.w (Fr.w hF (by decide)) (by decide)) (by decide)
      have after : ∀ z5 : PV, gV mX7_fail (d + 3) P 222 [vR 47, vI l, vI c, vI k, vI (upF T (T 1 0).toNat), z5] [] M := by
        intro z5
        rw [hK]
        repeat (refine gV_s rfl (by first | exact trivial | omega) ?_)
        refine gV_i rfl (by unfold rng; omega) (fun h2 => ?_) (fun h2 => ?_)
        · have hg : g = -6 := by omega
          repeat (refine gV_s rfl (by first | exact trivial | omega) ?_)
          refine gV_it rfl (by unfold rng; omega) h2 ?_
          repeat (refine gV_s rfl (by first | exact trivial | omega) ?_)
          refine ih (k + 1) _ _ _ (by omega) ?_ (hFw 0)
          rw [show B + 400 * ((k + 1 : Nat) : Int) = B + 400 * k + 400 by push_cast; omega, step, hT, if_pos h1, e1m]
          have es : aSettle (mw (mw (mw T 20 k (-6)) 19 k g) 21 k (if g = -6 then 0 else 1)) k = mw (mw (mw T 20 k (-6)) 19 k g) 21 k (if g = -6 then 0 else 1) := by
            unfold aSettle
            rw [if_neg (fun q => q.1 (by rw [cg]; exact hg))]
          rw [es]
          exact RM_B (hRw 0 (by rw [if_pos hg])) (by omega)
        · repeat (refine gV_s rfl (by first | exact trivial | omega) ?_)
          refine gV_in rfl (by unfold rng; omega) h2 ?_
          repeat (refine gV_s rfl (by first | exact trivial | omega) ?_)
          refine gV_cV (ok_settleM (d := d) (b := (k : Int)) (B := B + 400 * k) j1 (by omega) (by omega) (hRw 1 (by rw [if_neg (by omega)])) (by omega) (by rw [cg]; omega) (j2 (by rw [cg]; omega))) mX7_settle_ok sX7_X7_settle rfl rfl rfl rfl rfl rfl ?_
          rintro r M2 ⟨rfl, hR2, hF2⟩
          refine gV_s rfl trivial (gV_s rfl trivial ?_)
          exact nxt M2 _ _ hR2 (Fr.tr (hFw 1) hF2)
      repeat (refine gV_s rfl (by first | exact trivial | omega) ?_)
      rw [hR.s1]
      exact best_loop (d := d) i1 hR (by omega) after (T 1 0).toNat 0 (by omega)
    · rw [if_neg h1] at nxt
      exact nxt M _ _ (RM_B hR (by omega)) hF
theorem ok_mFail {d : Nat} {S M : Mem} {B l : Int} (h : NI S) (hl : rng l) (hR : RM S M B) (hB : B + 1700000 ≤ 2000000000) : gOk mX7_fail (d + 3) [vR 47, vI l] M (dM (oFail S l) M B) := by
  have hMM := MR_of h hR (by omega)
  have hL := h.1.1
  refine gOk_of mX7_fail_ok (by simp) (Nat.le_of_ble_eq_true rfl) ?_
  repeat (refine gV_s rfl (by first | exact trivial | omega) ?_)
  refine gV_cV (ok_isLink (d := d + 1) (M := M) hMM hl) mX7_isLink_ok sX7_X7_isLink rfl rfl rfl rfl rfl rfl ?_
  rintro r M' ⟨rfl, ⟨h1, rfl⟩ | ⟨h1, rfl⟩⟩
  · rw [hR.s1] at h1
    have hup := h.2.1.2.1 l
    have e50 : M' 50 l = S 9 l := by rw [hR.e50]
    refine gV_in rfl (by unfold rng; omega) (by omega) ?_
    repeat (refine gV_s rfl (by first | exact trivial | omega) ?_)
    rw [e50]
    refine gV_i rfl (by unfold rng; omega) (fun h2 => ?_) (fun h2 => ?_)
    · repeat (refine gV_s rfl (by first | exact trivial | omega) ?_)
      exact gV_ret rfl trivial (dM0 (by unfold oFail; rw [if_pos h1, if_pos h2]) hR)
    · have hu : S 9 l = 1 := by omega
      have h1d := AI_down h hu
      have e9 : aLose (mw S 9 l 0) l 9 l = 0 := by rw [mw_lose, mw_rs, up1_s]
      obtain ⟨c1, c2, c3, c4, c5, c6⟩ := AI_can h1d h1.1 e9 8 (by omega)
      have eo : oFail S l = (S 17 l - S 15 l, aFail S l) := by unfold oFail; rw [if_pos h1, if_neg h2]
      have last : ∀ (M2 : Mem) (z3 : Int) (z4 z5 : PV), RM (aCan (aLose (mw S 9 l 0) l) l 8) M2 (B + 3200) → Fr M' M2 → gV mX7_fail (d + 3) (dM (oFail S l) M' B) 143 [vR 47, vI l, vI (S 17 l - S 15 l), vI z3, z4, z5] [] M2 := by
        intro M2 z3 z4 z5 hR2 hF2
        repeat (refine gV_s rfl (by first | exact trivial | omega) ?_)
        exact mvs_loopF (d := d) (M0 := M') (B := B + 3200) c1 h1.1 (by omega) (by rw [c3]; exact e9) (fun b b0 b8 => c6 b b0 (by omega)) (by omega) (fun M3 a b => dMP eo (RM_B a (by omega)) b) 8 0 M2 z4 z5 rfl (RM_B hR2 (by omega)) hF2
      have mid : ∀ (M2 : Mem) (z3 z4 z5 : PV), RM (aLose (mw S 9 l 0) l) M2 B → Fr M' M2 → gV mX7_fail (d + 3) (dM (oFail S l) M' B) 97 [vR 47, vI l, vI (S 17 l - S 15 l), z3, z4, z5] [] M2 := by
        intro M2 z3 z4 z5 hR2 hF2
        repeat (refine gV_s rfl (by first | exact trivial | omega) ?_)
        exact can_loopF (d := d) (M0 := M') (B := B) h1d h1.1 (by omega) e9 (fun M3 z3 z4 a b => last M3 z3 z4 z5 a b) 8 0 M2 z4 rfl (RM_B hR2 (by omega)) hF2
      have hR1 : RM (mw S 9 l 0) (mw M' 50 l 0) B := RM_w hR (by simp)
      have hn := h.1.2.2.1
      repeat (refine gV_s rfl (by first | exact trivial | omega) ?_)
      simp only [mw_rn, ne_eq, not_false_eq_true, Nat.reduceEqDiff, Nat.reduceLT, Nat.reduceLeDiff, true_or, or_true, forall_const]
      rw [hR.s16]
      have e0 : lsM S (mw M' 50 l 0) l 0 = mw M' 50 l 0 := mem_ext (fun r => by
        have hno : ∀ i : Int, ¬ (0 ≤ i ∧ i < ((0 : Nat) : Int) ∧ goneP S l i = true) := fun i q => by omega
        by_cases r1 : r = 61
        · subst r1
          funext i
          unfold lsM
          simp only [if_true]
          rw [if_neg (hno i), mw_rn _ _ _ (by decide), hR.e61]
        · by_cases r2 : r = 66
          · subst r2
            funext i
            unfold lsM
            simp only [Nat.reduceEqDiff, if_false, if_true]
            rw [if_neg (hno i), mw_rn _ _ _ (by decide), hR.e66]
          · exact lsM_o r1 r2)
      have := lose_loopM (d := d) (P := dM (oFail S l) M' B) h h1.1 (by omega) hR1 (z4 := none) (z5 := none) (fun M2 z3 a b => mid M2 z3 none none (by rw [mw_lose]; exact a) (Fr.tr (Fr.w Fr.rf (by decide)) b)) (S 4 0).toNat 0 (by omega)
      rw [e0] at this
      exact this
  · rw [hR.s1] at h1
    refine gV_it rfl (by unfold rng; omega) rfl ?_
    repeat (refine gV_s rfl (by first | exact trivial | omega) ?_)
    exact gV_ret rfl trivial (dM0 (by unfold oFail; rw [if_neg h1]) hR)
