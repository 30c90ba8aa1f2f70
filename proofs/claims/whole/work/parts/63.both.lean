/-! The two constructors' cells together: by program -/
set_option maxRecDepth 20000 in
set_option maxHeartbeats 4000000 in
theorem made {cs : Cs} {q6 q7 b : Nat} {w6 w7 : va_W} (h6 : Sh6 cs q6 w6) (h7 : Sh7 cs q7 w7) : ∃ ad : Nat → Nat, ad 0 = q6 ∧ ad 47 = q7 ∧ ad 74 = b ∧ (∀ (D : va_G) (H : Heap), va_P D vwCl (([] ++ w6) ++ w7) H → va_P D vwCl (wld cs ad M0) H) ∧ (∀ A : Nat → Prop, va_D A (([] ++ w6) ++ w7) → va_D A (wld cs ad M0)) := by
  obtain ⟨q3, q0, q1, q2, q5, q4, w3, w0, w1, w2, w5, w4, h3, h0, h1, h2, h5, h4, rfl⟩ := h6
  obtain ⟨v3_0, v3_1, v3_2, rfl⟩ := we3 h3
  obtain ⟨v0_0, rfl⟩ := we0 h0
  obtain ⟨v1_0, rfl⟩ := we1 h1
  obtain ⟨v2_0, rfl⟩ := we2 h2
  obtain ⟨v5_0, rfl⟩ := we5 h5
  obtain ⟨v4_0, rfl⟩ := we4 h4
  obtain ⟨v7_0, v7_1, rfl⟩ := we7 h7
  have e : ∀ x : va_W, x = wsL cs q6 q3 q0 q1 q2 q5 q4 q7 b v3_0 v3_1 v3_2 v0_0 v1_0 v2_0 v5_0 v4_0 v7_0 v7_1 → (∀ (D : va_G) (H : Heap), va_P D vwCl x H → va_P D vwCl (wld cs (nthN (adL q6 q3 q0 q1 q2 q5 q4 q7 b v3_0 v3_1 v3_2 v0_0 v1_0 v2_0 v5_0 v4_0 v7_0 v7_1)) M0) H) ∧ (∀ A : Nat → Prop, va_D A x → va_D A (wld cs (nthN (adL q6 q3 q0 q1 q2 q5 q4 q7 b v3_0 v3_1 v3_2 v0_0 v1_0 v2_0 v5_0 v4_0 v7_0 v7_1)) M0)) := fun x hx => by
    subst hx
    exact ⟨fun D H h => key_P cs q6 q3 q0 q1 q2 q5 q4 q7 b v3_0 v3_1 v3_2 v0_0 v1_0 v2_0 v5_0 v4_0 v7_0 v7_1 h, fun A h => key_D cs q6 q3 q0 q1 q2 q5 q4 q7 b v3_0 v3_1 v3_2 v0_0 v1_0 v2_0 v5_0 v4_0 v7_0 v7_1 h⟩
  refine ⟨nthN (adL q6 q3 q0 q1 q2 q5 q4 q7 b v3_0 v3_1 v3_2 v0_0 v1_0 v2_0 v5_0 v4_0 v7_0 v7_1), rfl, rfl, rfl, e _ ?_⟩
  unfold wsL
  simp only [fz6, List.nil_append, List.cons_append, List.append_nil, List.set_cons_zero, List.set_cons_succ]
