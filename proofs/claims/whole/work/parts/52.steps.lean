/-! One call of the law: what holds before it holds after it. -/
def INV (M : Mem) (k : Int) : Prop := NI M ∧ RM M M (1700000 * k) ∧ (∀ l : Int, 0 ≤ l → l < 4 → M 45 l = 0) ∧ M 5 0 ≤ 500 * k
theorem kn_lt {r : Nat} (h : kn r = true) : r < 44 := by
  by_cases c : r < 44
  · exact c
  · exfalso
    unfold kn at h
    simp only [Bool.or_eq_true, beq_iff_eq] at h
    omega
theorem inv_pre {M : Mem} {o : Int × Mem} {k : Int} (h : INV M k) (hk : kp M o) : RM M o.2 (1700000 * k) := RM_M h.2.1 (fun r a b => hk.2.1 r (by omega))
theorem inv_op {M M2 : Mem} {o : Int × Mem} {k : Int} (h : INV M k) (hk : kp M o) (hR : RM o.2 M2 (1700000 * k + 1700000)) (hF : Fr o.2 M2) : INV M2 (k + 1) := by
  refine ⟨NI_fr hk.1 (fun r hr => hF r hr), ?_, fun l a b => ?_, ?_⟩
  · rw [show 1700000 * (k + 1) = 1700000 * k + 1700000 by omega]
    exact RM_S hR (fun r hr => hF r (by have := kn_lt hr; omega))
  · rw [hF 45 (by decide), hk.2.1 45 (by decide)]; exact h.2.2.1 l a b
  · rw [hF 5 (by decide)]
    have := hk.2.2
    have := h.2.2.2
    omega
theorem RM_S6 {S S' M : Mem} {B : Int} (h : RM S M B) (hS : ∀ r, kn r = true → r ≠ 6 → S' r = S r) (h6 : S' 6 0 = S 6 0) : RM S' M B := by
  have h1 : RM (mw S' 6 0 (S' 6 0)) M B := by
    refine ⟨?_, ?_, ?_⟩
    · have := h.1
      unfold Rr at *
      simp only [mw_rn, hS 7 rfl (by decide), hS 8 rfl (by decide), hS 9 rfl (by decide), hS 18 rfl (by decide), hS 19 rfl (by decide), hS 20 rfl (by decide), hS 21 rfl (by decide), hS 23 rfl (by decide), hS 24 rfl (by decide), hS 25 rfl (by decide), hS 31 rfl (by decide), hS 32 rfl (by decide), hS 33 rfl (by decide), hS 34 rfl (by decide), hS 35 rfl (by decide), hS 36 rfl (by decide), hS 37 rfl (by decide), hS 38 rfl (by decide), hS 39 rfl (by decide), hS 40 rfl (by decide), hS 43 rfl (by decide), ne_eq, not_false_eq_true, Nat.reduceEqDiff, Nat.reduceLT, Nat.reduceLeDiff, true_or, or_true, forall_const]
      exact this
    · have := h.2.1
      unfold Rs at *
      simp only [mw_rs, up1_s, mw_rn, hS 5 rfl (by decide), hS 1 rfl (by decide), hS 3 rfl (by decide), hS 4 rfl (by decide), hS 41 rfl (by decide), h6, ne_eq, not_false_eq_true, Nat.reduceEqDiff, Nat.reduceLT, Nat.reduceLeDiff, true_or, or_true, forall_const]
      exact this
    · have h3 := h.2.2
      simp only [mw_rn, hS 15 rfl (by decide), hS 16 rfl (by decide), hS 17 rfl (by decide), ne_eq, not_false_eq_true, Nat.reduceEqDiff, Nat.reduceLT, Nat.reduceLeDiff, true_or, or_true, forall_const]
      refine Rt_rw h3 (fun k p k0 k4 => ?_)
      show mw S' 6 0 (S' 6 0) (11 + k.toNat) p = S (11 + k.toNat) p
      rw [mw_rn _ _ _ (by omega)]
      have : k = 0 ∨ k = 1 ∨ k = 2 ∨ k = 3 := by omega
      rcases this with rfl | rfl | rfl | rfl
      · rw [show 11 + (0 : Int).toNat = 11 from rfl, hS 11 rfl (by decide)]
      · rw [show 11 + (1 : Int).toNat = 12 from rfl, hS 12 rfl (by decide)]
      · rw [show 11 + (2 : Int).toNat = 13 from rfl, hS 13 rfl (by decide)]
      · rw [show 11 + (3 : Int).toNat = 14 from rfl, hS 14 rfl (by decide)]
  rw [mw_id] at h1
  exact h1
theorem ev_pre {M M1 : Mem} {k : Int} (h : INV M k) (hm : evM M M1) : RM M M1 (1700000 * k) := RM_M h.2.1 (fun r a b => hm.1 r (by omega))
theorem inv_even {M M1 M2 : Mem} {k : Int} (h : INV M k) (hm : evM M M1) (hR : RM M M2 (1700000 * k)) (hF : Fr M1 M2) : INV M2 (k + 1) := by
  have er : ∀ r, r ≠ 6 → r < 47 → M2 r = M r := fun r a b => by rw [hF r b, hm.1 r a]
  have e6 : M2 6 0 = M 6 0 := by rw [hF 6 (by decide), hm.2]
  refine ⟨?_, ?_, fun l a b => ?_, ?_⟩
  · unfold NI
    rw [er 5 (by decide) (by decide)]
    exact AI_pl h.1 (fun r a b => er r a (by omega)) (by rw [e6]; exact h.1.1.2.2.2.2.2.2.2)
  · refine RM_B (RM_S6 hR (fun r hr a => er r a (by have := kn_lt hr; omega)) e6) (by omega)
  · rw [er 45 (by decide) (by decide)]; exact h.2.2.1 l a b
  · rw [er 5 (by decide) (by decide)]
    have := h.2.2.2
    omega
theorem lsA_h {S : Mem} {k v h' : Int} {pl' : Int → Int} (h : lsA S k v h' pl') (h0 : S 6 0 = 0 ∨ S 6 0 = 1) : h' = 0 ∨ h' = 1 := by
  rcases h with ⟨-, -, c, -⟩ | ⟨-, -, -, c, -⟩ | ⟨-, -, F, c, -⟩
  · rw [c]; exact h0
  · rw [c]; exact h0
  · rcases c with ⟨-, c, -⟩ | ⟨-, c, -⟩
    · rw [c]; exact h0
    · exact Or.inr c
theorem ls_pre {M M1 : Mem} {k : Int} (h : INV M k) (hm : lsM0 M M1) : RM M M1 (1700000 * k) := RM_M h.2.1 (fun r a b => hm r (by omega) (by omega) (by omega) (by omega))
theorem inv_least {M M1 M2 : Mem} {k q v v' : Int} (h : INV M k) (hm : lsM0 M M1) (hv : lsA M q v (M1 6 0) (M1 43)) (hr : ∀ r, r ≠ 47 → r < 70 → M2 r = M1 r) (h47 : ∀ i, i ≠ 31 → M2 47 i = M1 47 i) (hv' : lsA M q v' (M2 47 31) (M2 70)) : v = v' ∧ INV M2 (k + 1) := by
  obtain ⟨e1, e2, e3⟩ := lsA_fun h.1.1.1.2 hv hv'
  refine ⟨e1, ?_⟩
  have er : ∀ r, r ≠ 6 → r ≠ 43 → r ≠ 44 → r ≠ 46 → r ≠ 47 → r < 70 → M2 r = M r := fun r a b c d e f => by rw [hr r e f, hm r a b c d]
  have e47 : ∀ i, i ≠ 31 → M2 47 i = M 47 i := fun i a => by rw [h47 i a, hm 47 (by decide) (by decide) (by decide) (by decide)]
  have e6 : M2 6 0 = M2 47 31 := by rw [hr 6 (by decide) (by decide), e2]
  have e43 : M2 43 = M2 70 := by rw [hr 43 (by decide) (by decide), e3]
  refine ⟨?_, ?_, fun l a b => ?_, ?_⟩
  · unfold NI
    rw [er 5 (by decide) (by decide) (by decide) (by decide) (by decide) (by decide)]
    exact AI_pl h.1 (fun r a b => er r a (by omega) (by omega) (by omega) (by omega) (by omega)) (by rw [e6]; exact lsA_h hv' h.1.1.2.2.2.2.2.2.2)
  · obtain ⟨⟨e48, e49, e50, e51, e52, e53, e54, e55, e56, e57, e58, e59, e60, e61, e62, e63, e64, e65, e66, e69, e70⟩, ⟨t1, t2, t3, t4, t5, t6, t7, t8, t9⟩, hT⟩ := RM_B h.2.1 (show 1700000 * k ≤ 1700000 * (k + 1) by omega)
    refine ⟨?_, ?_, ?_⟩
    · unfold Rr
      simp only [er, ne_eq, not_false_eq_true, Nat.reduceEqDiff, Nat.reduceLT, Nat.reduceLeDiff, true_or, or_true, forall_const]
      exact ⟨e48, e49, e50, e51, e52, e53, e54, e55, e56, e57, e58, e59, e60, e61, e62, e63, e64, e65, e66, e69, e43.symm⟩
    · unfold Rs
      rw [e47 0 (by decide), e47 1 (by decide), e47 10 (by decide), e47 13 (by decide), e47 14 (by decide), e47 15 (by decide), e47 16 (by decide), e47 29 (by decide)]
      simp only [er, ne_eq, not_false_eq_true, Nat.reduceEqDiff, Nat.reduceLT, Nat.reduceLeDiff, true_or, or_true, forall_const]
      exact ⟨t1, t2, t3, t4, t5, t6, t7, t8, e6.symm⟩
    · rw [e47 28 (by decide)]
      simp only [er, ne_eq, not_false_eq_true, Nat.reduceEqDiff, Nat.reduceLT, Nat.reduceLeDiff, true_or, or_true, forall_const]
      exact Rt_rw hT (fun k p k0 k4 => by
        show M2 (11 + k.toNat) p = _
        rw [er _ (by omega) (by omega) (by omega) (by omega) (by omega) (by omega)])
  · rw [er 45 (by decide) (by decide) (by decide) (by decide) (by decide) (by decide)]; exact h.2.2.1 l a b
  · rw [er 5 (by decide) (by decide) (by decide) (by decide) (by decide) (by decide)]
    have := h.2.2.2
    omega
