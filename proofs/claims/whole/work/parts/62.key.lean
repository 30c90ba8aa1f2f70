/-! Each cell of the start is the made one: by program -/
theorem piL_inj : ∀ i, i < 74 → ∀ j, j < 74 → nthN piL i = nthN piL j → i = j := by decide +kernel
def KP (cs : Cs) (q6 q3 q0 q1 q2 q5 q4 q7 b : Nat) (v3_0 v3_1 v3_2 v0_0 v1_0 v2_0 v5_0 v4_0 v7_0 v7_1 : Nat → Nat) (k : Nat) : Prop := ∀ q : Nat × va_E, (wld cs (nthN (adL q6 q3 q0 q1 q2 q5 q4 q7 b v3_0 v3_1 v3_2 v0_0 v1_0 v2_0 v5_0 v4_0 v7_0 v7_1)) M0)[k]? = some q → ∃ z0 : Nat × va_E, (wsL cs q6 q3 q0 q1 q2 q5 q4 q7 b v3_0 v3_1 v3_2 v0_0 v1_0 v2_0 v5_0 v4_0 v7_0 v7_1)[nthN piL k]? = some z0 ∧ z0.1 = q.1 ∧ ∀ (D : va_G) (H : Heap), va_at D vwCl z0 H → va_at D vwCl q H
set_option maxRecDepth 20000 in
theorem kp0 (cs : Cs) (q6 q3 q0 q1 q2 q5 q4 q7 b : Nat) (v3_0 v3_1 v3_2 v0_0 v1_0 v2_0 v5_0 v4_0 v7_0 v7_1 : Nat → Nat) : KP cs q6 q3 q0 q1 q2 q5 q4 q7 b v3_0 v3_1 v3_2 v0_0 v1_0 v2_0 v5_0 v4_0 v7_0 v7_1 0 := by
  intro q hk
  rw [wld_get (r := 0) (sh := .inl (6, [some 1, some 2, some 3, some 4, some 5, some 6])) rfl, ob0] at hk
  cases hk
  exact ⟨_, rfl, rfl, fun _ _ h => h⟩
set_option maxRecDepth 20000 in
theorem kp1 (cs : Cs) (q6 q3 q0 q1 q2 q5 q4 q7 b : Nat) (v3_0 v3_1 v3_2 v0_0 v1_0 v2_0 v5_0 v4_0 v7_0 v7_1 : Nat → Nat) : KP cs q6 q3 q0 q1 q2 q5 q4 q7 b v3_0 v3_1 v3_2 v0_0 v1_0 v2_0 v5_0 v4_0 v7_0 v7_1 1 := by
  intro q hk
  rw [wld_get (r := 1) (sh := .inl (3, [none, some 7, some 8, some 9, some 10, some 15, some 16, some 17, some 18])) rfl, ob1] at hk
  cases hk
  exact ⟨_, rfl, rfl, fun _ _ h => h⟩
set_option maxRecDepth 20000 in
theorem kp2 (cs : Cs) (q6 q3 q0 q1 q2 q5 q4 q7 b : Nat) (v3_0 v3_1 v3_2 v0_0 v1_0 v2_0 v5_0 v4_0 v7_0 v7_1 : Nat → Nat) : KP cs q6 q3 q0 q1 q2 q5 q4 q7 b v3_0 v3_1 v3_2 v0_0 v1_0 v2_0 v5_0 v4_0 v7_0 v7_1 2 := by
  intro q hk
  rw [wld_get (r := 2) (sh := .inl (0, [some 19, some 20, some 21, some 22, some 23])) rfl, ob2] at hk
  cases hk
  exact ⟨_, rfl, rfl, fun _ _ h => h⟩
set_option maxRecDepth 20000 in
theorem kp3 (cs : Cs) (q6 q3 q0 q1 q2 q5 q4 q7 b : Nat) (v3_0 v3_1 v3_2 v0_0 v1_0 v2_0 v5_0 v4_0 v7_0 v7_1 : Nat → Nat) : KP cs q6 q3 q0 q1 q2 q5 q4 q7 b v3_0 v3_1 v3_2 v0_0 v1_0 v2_0 v5_0 v4_0 v7_0 v7_1 3 := by
  intro q hk
  rw [wld_get (r := 3) (sh := .inl (1, [none, none, none, some 24, some 25, some 26, some 27, some 28, some 29, some 30])) rfl, ob3] at hk
  cases hk
  exact ⟨_, rfl, rfl, fun _ _ h => h⟩
set_option maxRecDepth 20000 in
theorem kp4 (cs : Cs) (q6 q3 q0 q1 q2 q5 q4 q7 b : Nat) (v3_0 v3_1 v3_2 v0_0 v1_0 v2_0 v5_0 v4_0 v7_0 v7_1 : Nat → Nat) : KP cs q6 q3 q0 q1 q2 q5 q4 q7 b v3_0 v3_1 v3_2 v0_0 v1_0 v2_0 v5_0 v4_0 v7_0 v7_1 4 := by
  intro q hk
  rw [wld_get (r := 4) (sh := .inl (2, [none, some 31, some 32, some 33, some 34, some 35, some 36, some 37, some 38, some 39, some 40, some 41])) rfl, ob4] at hk
  cases hk
  exact ⟨_, rfl, rfl, fun _ _ h => h⟩
set_option maxRecDepth 20000 in
theorem kp5 (cs : Cs) (q6 q3 q0 q1 q2 q5 q4 q7 b : Nat) (v3_0 v3_1 v3_2 v0_0 v1_0 v2_0 v5_0 v4_0 v7_0 v7_1 : Nat → Nat) : KP cs q6 q3 q0 q1 q2 q5 q4 q7 b v3_0 v3_1 v3_2 v0_0 v1_0 v2_0 v5_0 v4_0 v7_0 v7_1 5 := by
  intro q hk
  rw [wld_get (r := 5) (sh := .inl (5, [none, none, some 1, some 2, some 3, some 4, some 42])) rfl, ob5] at hk
  cases hk
  exact ⟨_, rfl, rfl, fun _ _ h => h⟩
set_option maxRecDepth 20000 in
theorem kp6 (cs : Cs) (q6 q3 q0 q1 q2 q5 q4 q7 b : Nat) (v3_0 v3_1 v3_2 v0_0 v1_0 v2_0 v5_0 v4_0 v7_0 v7_1 : Nat → Nat) : KP cs q6 q3 q0 q1 q2 q5 q4 q7 b v3_0 v3_1 v3_2 v0_0 v1_0 v2_0 v5_0 v4_0 v7_0 v7_1 6 := by
  intro q hk
  rw [wld_get (r := 6) (sh := .inl (4, [none, some 43, some 1, some 2, some 3, some 44, some 45, some 46, none, none, none, none])) rfl, ob6] at hk
  cases hk
  exact ⟨_, rfl, rfl, fun _ _ h => h⟩
set_option maxRecDepth 20000 in
theorem kp7 (cs : Cs) (q6 q3 q0 q1 q2 q5 q4 q7 b : Nat) (v3_0 v3_1 v3_2 v0_0 v1_0 v2_0 v5_0 v4_0 v7_0 v7_1 : Nat → Nat) : KP cs q6 q3 q0 q1 q2 q5 q4 q7 b v3_0 v3_1 v3_2 v0_0 v1_0 v2_0 v5_0 v4_0 v7_0 v7_1 7 := by
  intro q hk
  rw [wld_get (r := 7) (sh := .inr (0, 4)) rfl, cel_z0 (M0_z (by decide) (by decide) (by decide) (by decide) (by decide) (by decide))] at hk
  cases hk
  exact ⟨_, rfl, rfl, fun _ _ h => h⟩
set_option maxRecDepth 20000 in
theorem kp8 (cs : Cs) (q6 q3 q0 q1 q2 q5 q4 q7 b : Nat) (v3_0 v3_1 v3_2 v0_0 v1_0 v2_0 v5_0 v4_0 v7_0 v7_1 : Nat → Nat) : KP cs q6 q3 q0 q1 q2 q5 q4 q7 b v3_0 v3_1 v3_2 v0_0 v1_0 v2_0 v5_0 v4_0 v7_0 v7_1 8 := by
  intro q hk
  rw [wld_get (r := 8) (sh := .inr (0, 4)) rfl, cel_z0 (M0_z (by decide) (by decide) (by decide) (by decide) (by decide) (by decide))] at hk
  cases hk
  exact ⟨_, rfl, rfl, fun _ _ h => h⟩
set_option maxRecDepth 20000 in
theorem kp9 (cs : Cs) (q6 q3 q0 q1 q2 q5 q4 q7 b : Nat) (v3_0 v3_1 v3_2 v0_0 v1_0 v2_0 v5_0 v4_0 v7_0 v7_1 : Nat → Nat) : KP cs q6 q3 q0 q1 q2 q5 q4 q7 b v3_0 v3_1 v3_2 v0_0 v1_0 v2_0 v5_0 v4_0 v7_0 v7_1 9 := by
  intro q hk
  rw [wld_get (r := 9) (sh := .inr (1, 4)) rfl, cel_z1 (M0_z (by decide) (by decide) (by decide) (by decide) (by decide) (by decide))] at hk
  cases hk
  exact ⟨_, rfl, rfl, fun _ _ h => h⟩
set_option maxRecDepth 20000 in
theorem kp10 (cs : Cs) (q6 q3 q0 q1 q2 q5 q4 q7 b : Nat) (v3_0 v3_1 v3_2 v0_0 v1_0 v2_0 v5_0 v4_0 v7_0 v7_1 : Nat → Nat) : KP cs q6 q3 q0 q1 q2 q5 q4 q7 b v3_0 v3_1 v3_2 v0_0 v1_0 v2_0 v5_0 v4_0 v7_0 v7_1 10 := by
  intro q hk
  rw [wld_get (r := 10) (sh := .inr (11, 4)) rfl] at hk
  cases hk
  refine ⟨_, rfl, rfl, fun _ _ h => at_R (f := fun j => v3_1 (j + 1)) (f' := fun j => nthN (adL q6 q3 q0 q1 q2 q5 q4 q7 b v3_0 v3_1 v3_2 v0_0 v1_0 v2_0 v5_0 v4_0 v7_0 v7_1) (9 + 2 + j)) ?_ h⟩
  intro j hj
  have h4 : j = 0 ∨ j = 1 ∨ j = 2 ∨ j = 3 := by omega
  rcases h4 with rfl | rfl | rfl | rfl <;> rfl
set_option maxRecDepth 20000 in
theorem kp11 (cs : Cs) (q6 q3 q0 q1 q2 q5 q4 q7 b : Nat) (v3_0 v3_1 v3_2 v0_0 v1_0 v2_0 v5_0 v4_0 v7_0 v7_1 : Nat → Nat) : KP cs q6 q3 q0 q1 q2 q5 q4 q7 b v3_0 v3_1 v3_2 v0_0 v1_0 v2_0 v5_0 v4_0 v7_0 v7_1 11 := by
  intro q hk
  rw [wld_get (r := 11) (sh := .inr (0, 400)) rfl, cel_z0 (M0_z (by decide) (by decide) (by decide) (by decide) (by decide) (by decide))] at hk
  cases hk
  exact ⟨_, rfl, rfl, fun _ _ h => h⟩
set_option maxRecDepth 20000 in
theorem kp12 (cs : Cs) (q6 q3 q0 q1 q2 q5 q4 q7 b : Nat) (v3_0 v3_1 v3_2 v0_0 v1_0 v2_0 v5_0 v4_0 v7_0 v7_1 : Nat → Nat) : KP cs q6 q3 q0 q1 q2 q5 q4 q7 b v3_0 v3_1 v3_2 v0_0 v1_0 v2_0 v5_0 v4_0 v7_0 v7_1 12 := by
  intro q hk
  rw [wld_get (r := 12) (sh := .inr (0, 400)) rfl, cel_z0 (M0_z (by decide) (by decide) (by decide) (by decide) (by decide) (by decide))] at hk
  cases hk
  exact ⟨_, rfl, rfl, fun _ _ h => h⟩
set_option maxRecDepth 20000 in
theorem kp13 (cs : Cs) (q6 q3 q0 q1 q2 q5 q4 q7 b : Nat) (v3_0 v3_1 v3_2 v0_0 v1_0 v2_0 v5_0 v4_0 v7_0 v7_1 : Nat → Nat) : KP cs q6 q3 q0 q1 q2 q5 q4 q7 b v3_0 v3_1 v3_2 v0_0 v1_0 v2_0 v5_0 v4_0 v7_0 v7_1 13 := by
  intro q hk
  rw [wld_get (r := 13) (sh := .inr (0, 400)) rfl, cel_z0 (M0_z (by decide) (by decide) (by decide) (by decide) (by decide) (by decide))] at hk
  cases hk
  exact ⟨_, rfl, rfl, fun _ _ h => h⟩
set_option maxRecDepth 20000 in
theorem kp14 (cs : Cs) (q6 q3 q0 q1 q2 q5 q4 q7 b : Nat) (v3_0 v3_1 v3_2 v0_0 v1_0 v2_0 v5_0 v4_0 v7_0 v7_1 : Nat → Nat) : KP cs q6 q3 q0 q1 q2 q5 q4 q7 b v3_0 v3_1 v3_2 v0_0 v1_0 v2_0 v5_0 v4_0 v7_0 v7_1 14 := by
  intro q hk
  rw [wld_get (r := 14) (sh := .inr (0, 400)) rfl, cel_z0 (M0_z (by decide) (by decide) (by decide) (by decide) (by decide) (by decide))] at hk
  cases hk
  exact ⟨_, rfl, rfl, fun _ _ h => h⟩
set_option maxRecDepth 20000 in
theorem kp15 (cs : Cs) (q6 q3 q0 q1 q2 q5 q4 q7 b : Nat) (v3_0 v3_1 v3_2 v0_0 v1_0 v2_0 v5_0 v4_0 v7_0 v7_1 : Nat → Nat) : KP cs q6 q3 q0 q1 q2 q5 q4 q7 b v3_0 v3_1 v3_2 v0_0 v1_0 v2_0 v5_0 v4_0 v7_0 v7_1 15 := by
  intro q hk
  rw [wld_get (r := 15) (sh := .inr (0, 4)) rfl, cel_z0 (M0_z (by decide) (by decide) (by decide) (by decide) (by decide) (by decide))] at hk
  cases hk
  exact ⟨_, rfl, rfl, fun _ _ h => h⟩
set_option maxRecDepth 20000 in
theorem kp16 (cs : Cs) (q6 q3 q0 q1 q2 q5 q4 q7 b : Nat) (v3_0 v3_1 v3_2 v0_0 v1_0 v2_0 v5_0 v4_0 v7_0 v7_1 : Nat → Nat) : KP cs q6 q3 q0 q1 q2 q5 q4 q7 b v3_0 v3_1 v3_2 v0_0 v1_0 v2_0 v5_0 v4_0 v7_0 v7_1 16 := by
  intro q hk
  rw [wld_get (r := 16) (sh := .inr (0, 4)) rfl, cel_z0 (M0_z (by decide) (by decide) (by decide) (by decide) (by decide) (by decide))] at hk
  cases hk
  exact ⟨_, rfl, rfl, fun _ _ h => h⟩
set_option maxRecDepth 20000 in
theorem kp17 (cs : Cs) (q6 q3 q0 q1 q2 q5 q4 q7 b : Nat) (v3_0 v3_1 v3_2 v0_0 v1_0 v2_0 v5_0 v4_0 v7_0 v7_1 : Nat → Nat) : KP cs q6 q3 q0 q1 q2 q5 q4 q7 b v3_0 v3_1 v3_2 v0_0 v1_0 v2_0 v5_0 v4_0 v7_0 v7_1 17 := by
  intro q hk
  rw [wld_get (r := 17) (sh := .inr (0, 4)) rfl, cel_z0 (M0_z (by decide) (by decide) (by decide) (by decide) (by decide) (by decide))] at hk
  cases hk
  exact ⟨_, rfl, rfl, fun _ _ h => h⟩
set_option maxRecDepth 20000 in
theorem kp18 (cs : Cs) (q6 q3 q0 q1 q2 q5 q4 q7 b : Nat) (v3_0 v3_1 v3_2 v0_0 v1_0 v2_0 v5_0 v4_0 v7_0 v7_1 : Nat → Nat) : KP cs q6 q3 q0 q1 q2 q5 q4 q7 b v3_0 v3_1 v3_2 v0_0 v1_0 v2_0 v5_0 v4_0 v7_0 v7_1 18 := by
  intro q hk
  rw [wld_get (r := 18) (sh := .inr (0, 4)) rfl, cel_z0 (M0_z (by decide) (by decide) (by decide) (by decide) (by decide) (by decide))] at hk
  cases hk
  exact ⟨_, rfl, rfl, fun _ _ h => h⟩
set_option maxRecDepth 20000 in
theorem kp19 (cs : Cs) (q6 q3 q0 q1 q2 q5 q4 q7 b : Nat) (v3_0 v3_1 v3_2 v0_0 v1_0 v2_0 v5_0 v4_0 v7_0 v7_1 : Nat → Nat) : KP cs q6 q3 q0 q1 q2 q5 q4 q7 b v3_0 v3_1 v3_2 v0_0 v1_0 v2_0 v5_0 v4_0 v7_0 v7_1 19 := by
  intro q hk
  rw [wld_get (r := 19) (sh := .inr (0, 8)) rfl, cel_6 (M0_6 (by omega))] at hk
  cases hk
  exact ⟨_, rfl, rfl, fun _ _ h => at_6 h⟩
set_option maxRecDepth 20000 in
theorem kp20 (cs : Cs) (q6 q3 q0 q1 q2 q5 q4 q7 b : Nat) (v3_0 v3_1 v3_2 v0_0 v1_0 v2_0 v5_0 v4_0 v7_0 v7_1 : Nat → Nat) : KP cs q6 q3 q0 q1 q2 q5 q4 q7 b v3_0 v3_1 v3_2 v0_0 v1_0 v2_0 v5_0 v4_0 v7_0 v7_1 20 := by
  intro q hk
  rw [wld_get (r := 20) (sh := .inr (0, 8)) rfl, cel_6 (M0_6 (by omega))] at hk
  cases hk
  exact ⟨_, rfl, rfl, fun _ _ h => at_6 h⟩
set_option maxRecDepth 20000 in
theorem kp21 (cs : Cs) (q6 q3 q0 q1 q2 q5 q4 q7 b : Nat) (v3_0 v3_1 v3_2 v0_0 v1_0 v2_0 v5_0 v4_0 v7_0 v7_1 : Nat → Nat) : KP cs q6 q3 q0 q1 q2 q5 q4 q7 b v3_0 v3_1 v3_2 v0_0 v1_0 v2_0 v5_0 v4_0 v7_0 v7_1 21 := by
  intro q hk
  rw [wld_get (r := 21) (sh := .inr (1, 8)) rfl, cel_z1 (M0_z (by decide) (by decide) (by decide) (by decide) (by decide) (by decide))] at hk
  cases hk
  exact ⟨_, rfl, rfl, fun _ _ h => h⟩
set_option maxRecDepth 20000 in
theorem kp22 (cs : Cs) (q6 q3 q0 q1 q2 q5 q4 q7 b : Nat) (v3_0 v3_1 v3_2 v0_0 v1_0 v2_0 v5_0 v4_0 v7_0 v7_1 : Nat → Nat) : KP cs q6 q3 q0 q1 q2 q5 q4 q7 b v3_0 v3_1 v3_2 v0_0 v1_0 v2_0 v5_0 v4_0 v7_0 v7_1 22 := by
  intro q hk
  rw [wld_get (r := 22) (sh := .inr (0, 8)) rfl, cel_z0 (M0_z (by decide) (by decide) (by decide) (by decide) (by decide) (by decide))] at hk
  cases hk
  exact ⟨_, rfl, rfl, fun _ _ h => h⟩
set_option maxRecDepth 20000 in
theorem kp23 (cs : Cs) (q6 q3 q0 q1 q2 q5 q4 q7 b : Nat) (v3_0 v3_1 v3_2 v0_0 v1_0 v2_0 v5_0 v4_0 v7_0 v7_1 : Nat → Nat) : KP cs q6 q3 q0 q1 q2 q5 q4 q7 b v3_0 v3_1 v3_2 v0_0 v1_0 v2_0 v5_0 v4_0 v7_0 v7_1 23 := by
  intro q hk
  rw [wld_get (r := 23) (sh := .inr (0, 8)) rfl, cel_z0 (M0_z (by decide) (by decide) (by decide) (by decide) (by decide) (by decide))] at hk
  cases hk
  exact ⟨_, rfl, rfl, fun _ _ h => h⟩
set_option maxRecDepth 20000 in
theorem kp24 (cs : Cs) (q6 q3 q0 q1 q2 q5 q4 q7 b : Nat) (v3_0 v3_1 v3_2 v0_0 v1_0 v2_0 v5_0 v4_0 v7_0 v7_1 : Nat → Nat) : KP cs q6 q3 q0 q1 q2 q5 q4 q7 b v3_0 v3_1 v3_2 v0_0 v1_0 v2_0 v5_0 v4_0 v7_0 v7_1 24 := by
  intro q hk
  rw [wld_get (r := 24) (sh := .inr (0, 16)) rfl, cel_z0 (M0_z (by decide) (by decide) (by decide) (by decide) (by decide) (by decide))] at hk
  cases hk
  exact ⟨_, rfl, rfl, fun _ _ h => h⟩
set_option maxRecDepth 20000 in
theorem kp25 (cs : Cs) (q6 q3 q0 q1 q2 q5 q4 q7 b : Nat) (v3_0 v3_1 v3_2 v0_0 v1_0 v2_0 v5_0 v4_0 v7_0 v7_1 : Nat → Nat) : KP cs q6 q3 q0 q1 q2 q5 q4 q7 b v3_0 v3_1 v3_2 v0_0 v1_0 v2_0 v5_0 v4_0 v7_0 v7_1 25 := by
  intro q hk
  rw [wld_get (r := 25) (sh := .inr (0, 16)) rfl, cel_z0 (M0_z (by decide) (by decide) (by decide) (by decide) (by decide) (by decide))] at hk
  cases hk
  exact ⟨_, rfl, rfl, fun _ _ h => h⟩
set_option maxRecDepth 20000 in
theorem kp26 (cs : Cs) (q6 q3 q0 q1 q2 q5 q4 q7 b : Nat) (v3_0 v3_1 v3_2 v0_0 v1_0 v2_0 v5_0 v4_0 v7_0 v7_1 : Nat → Nat) : KP cs q6 q3 q0 q1 q2 q5 q4 q7 b v3_0 v3_1 v3_2 v0_0 v1_0 v2_0 v5_0 v4_0 v7_0 v7_1 26 := by
  intro q hk
  rw [wld_get (r := 26) (sh := .inr (0, 16)) rfl, cel_z0 (M0_z (by decide) (by decide) (by decide) (by decide) (by decide) (by decide))] at hk
  cases hk
  exact ⟨_, rfl, rfl, fun _ _ h => h⟩
set_option maxRecDepth 20000 in
theorem kp27 (cs : Cs) (q6 q3 q0 q1 q2 q5 q4 q7 b : Nat) (v3_0 v3_1 v3_2 v0_0 v1_0 v2_0 v5_0 v4_0 v7_0 v7_1 : Nat → Nat) : KP cs q6 q3 q0 q1 q2 q5 q4 q7 b v3_0 v3_1 v3_2 v0_0 v1_0 v2_0 v5_0 v4_0 v7_0 v7_1 27 := by
  intro q hk
  rw [wld_get (r := 27) (sh := .inr (0, 16)) rfl, cel_z0 (M0_z (by decide) (by decide) (by decide) (by decide) (by decide) (by decide))] at hk
  cases hk
  exact ⟨_, rfl, rfl, fun _ _ h => h⟩
set_option maxRecDepth 20000 in
theorem kp28 (cs : Cs) (q6 q3 q0 q1 q2 q5 q4 q7 b : Nat) (v3_0 v3_1 v3_2 v0_0 v1_0 v2_0 v5_0 v4_0 v7_0 v7_1 : Nat → Nat) : KP cs q6 q3 q0 q1 q2 q5 q4 q7 b v3_0 v3_1 v3_2 v0_0 v1_0 v2_0 v5_0 v4_0 v7_0 v7_1 28 := by
  intro q hk
  rw [wld_get (r := 28) (sh := .inr (0, 16)) rfl, cel_z0 (M0_z (by decide) (by decide) (by decide) (by decide) (by decide) (by decide))] at hk
  cases hk
  exact ⟨_, rfl, rfl, fun _ _ h => h⟩
set_option maxRecDepth 20000 in
theorem kp29 (cs : Cs) (q6 q3 q0 q1 q2 q5 q4 q7 b : Nat) (v3_0 v3_1 v3_2 v0_0 v1_0 v2_0 v5_0 v4_0 v7_0 v7_1 : Nat → Nat) : KP cs q6 q3 q0 q1 q2 q5 q4 q7 b v3_0 v3_1 v3_2 v0_0 v1_0 v2_0 v5_0 v4_0 v7_0 v7_1 29 := by
  intro q hk
  rw [wld_get (r := 29) (sh := .inr (0, 16)) rfl, cel_z0 (M0_z (by decide) (by decide) (by decide) (by decide) (by decide) (by decide))] at hk
  cases hk
  exact ⟨_, rfl, rfl, fun _ _ h => h⟩
set_option maxRecDepth 20000 in
theorem kp30 (cs : Cs) (q6 q3 q0 q1 q2 q5 q4 q7 b : Nat) (v3_0 v3_1 v3_2 v0_0 v1_0 v2_0 v5_0 v4_0 v7_0 v7_1 : Nat → Nat) : KP cs q6 q3 q0 q1 q2 q5 q4 q7 b v3_0 v3_1 v3_2 v0_0 v1_0 v2_0 v5_0 v4_0 v7_0 v7_1 30 := by
  intro q hk
  rw [wld_get (r := 30) (sh := .inr (1, 16)) rfl, cel_z1 (M0_z (by decide) (by decide) (by decide) (by decide) (by decide) (by decide))] at hk
  cases hk
  exact ⟨_, rfl, rfl, fun _ _ h => h⟩
set_option maxRecDepth 20000 in
theorem kp31 (cs : Cs) (q6 q3 q0 q1 q2 q5 q4 q7 b : Nat) (v3_0 v3_1 v3_2 v0_0 v1_0 v2_0 v5_0 v4_0 v7_0 v7_1 : Nat → Nat) : KP cs q6 q3 q0 q1 q2 q5 q4 q7 b v3_0 v3_1 v3_2 v0_0 v1_0 v2_0 v5_0 v4_0 v7_0 v7_1 31 := by
  intro q hk
  rw [wld_get (r := 31) (sh := .inr (0, 400)) rfl, cel_z0 (M0_z (by decide) (by decide) (by decide) (by decide) (by decide) (by decide))] at hk
  cases hk
  exact ⟨_, rfl, rfl, fun _ _ h => h⟩
set_option maxRecDepth 20000 in
theorem kp32 (cs : Cs) (q6 q3 q0 q1 q2 q5 q4 q7 b : Nat) (v3_0 v3_1 v3_2 v0_0 v1_0 v2_0 v5_0 v4_0 v7_0 v7_1 : Nat → Nat) : KP cs q6 q3 q0 q1 q2 q5 q4 q7 b v3_0 v3_1 v3_2 v0_0 v1_0 v2_0 v5_0 v4_0 v7_0 v7_1 32 := by
  intro q hk
  rw [wld_get (r := 32) (sh := .inr (0, 400)) rfl, cel_z0 (M0_z (by decide) (by decide) (by decide) (by decide) (by decide) (by decide))] at hk
  cases hk
  exact ⟨_, rfl, rfl, fun _ _ h => h⟩
set_option maxRecDepth 20000 in
theorem kp33 (cs : Cs) (q6 q3 q0 q1 q2 q5 q4 q7 b : Nat) (v3_0 v3_1 v3_2 v0_0 v1_0 v2_0 v5_0 v4_0 v7_0 v7_1 : Nat → Nat) : KP cs q6 q3 q0 q1 q2 q5 q4 q7 b v3_0 v3_1 v3_2 v0_0 v1_0 v2_0 v5_0 v4_0 v7_0 v7_1 33 := by
  intro q hk
  rw [wld_get (r := 33) (sh := .inr (0, 400)) rfl, cel_z0 (M0_z (by decide) (by decide) (by decide) (by decide) (by decide) (by decide))] at hk
  cases hk
  exact ⟨_, rfl, rfl, fun _ _ h => h⟩
set_option maxRecDepth 20000 in
theorem kp34 (cs : Cs) (q6 q3 q0 q1 q2 q5 q4 q7 b : Nat) (v3_0 v3_1 v3_2 v0_0 v1_0 v2_0 v5_0 v4_0 v7_0 v7_1 : Nat → Nat) : KP cs q6 q3 q0 q1 q2 q5 q4 q7 b v3_0 v3_1 v3_2 v0_0 v1_0 v2_0 v5_0 v4_0 v7_0 v7_1 34 := by
  intro q hk
  rw [wld_get (r := 34) (sh := .inr (0, 400)) rfl, cel_z0 (M0_z (by decide) (by decide) (by decide) (by decide) (by decide) (by decide))] at hk
  cases hk
  exact ⟨_, rfl, rfl, fun _ _ h => h⟩
set_option maxRecDepth 20000 in
theorem kp35 (cs : Cs) (q6 q3 q0 q1 q2 q5 q4 q7 b : Nat) (v3_0 v3_1 v3_2 v0_0 v1_0 v2_0 v5_0 v4_0 v7_0 v7_1 : Nat → Nat) : KP cs q6 q3 q0 q1 q2 q5 q4 q7 b v3_0 v3_1 v3_2 v0_0 v1_0 v2_0 v5_0 v4_0 v7_0 v7_1 35 := by
  intro q hk
  rw [wld_get (r := 35) (sh := .inr (0, 400)) rfl, cel_z0 (M0_z (by decide) (by decide) (by decide) (by decide) (by decide) (by decide))] at hk
  cases hk
  exact ⟨_, rfl, rfl, fun _ _ h => h⟩
set_option maxRecDepth 20000 in
theorem kp36 (cs : Cs) (q6 q3 q0 q1 q2 q5 q4 q7 b : Nat) (v3_0 v3_1 v3_2 v0_0 v1_0 v2_0 v5_0 v4_0 v7_0 v7_1 : Nat → Nat) : KP cs q6 q3 q0 q1 q2 q5 q4 q7 b v3_0 v3_1 v3_2 v0_0 v1_0 v2_0 v5_0 v4_0 v7_0 v7_1 36 := by
  intro q hk
  rw [wld_get (r := 36) (sh := .inr (0, 400)) rfl, cel_z0 (M0_z (by decide) (by decide) (by decide) (by decide) (by decide) (by decide))] at hk
  cases hk
  exact ⟨_, rfl, rfl, fun _ _ h => h⟩
set_option maxRecDepth 20000 in
theorem kp37 (cs : Cs) (q6 q3 q0 q1 q2 q5 q4 q7 b : Nat) (v3_0 v3_1 v3_2 v0_0 v1_0 v2_0 v5_0 v4_0 v7_0 v7_1 : Nat → Nat) : KP cs q6 q3 q0 q1 q2 q5 q4 q7 b v3_0 v3_1 v3_2 v0_0 v1_0 v2_0 v5_0 v4_0 v7_0 v7_1 37 := by
  intro q hk
  rw [wld_get (r := 37) (sh := .inr (0, 400)) rfl, cel_z0 (M0_z (by decide) (by decide) (by decide) (by decide) (by decide) (by decide))] at hk
  cases hk
  exact ⟨_, rfl, rfl, fun _ _ h => h⟩
set_option maxRecDepth 20000 in
theorem kp38 (cs : Cs) (q6 q3 q0 q1 q2 q5 q4 q7 b : Nat) (v3_0 v3_1 v3_2 v0_0 v1_0 v2_0 v5_0 v4_0 v7_0 v7_1 : Nat → Nat) : KP cs q6 q3 q0 q1 q2 q5 q4 q7 b v3_0 v3_1 v3_2 v0_0 v1_0 v2_0 v5_0 v4_0 v7_0 v7_1 38 := by
  intro q hk
  rw [wld_get (r := 38) (sh := .inr (0, 400)) rfl, cel_z0 (M0_z (by decide) (by decide) (by decide) (by decide) (by decide) (by decide))] at hk
  cases hk
  exact ⟨_, rfl, rfl, fun _ _ h => h⟩
set_option maxRecDepth 20000 in
theorem kp39 (cs : Cs) (q6 q3 q0 q1 q2 q5 q4 q7 b : Nat) (v3_0 v3_1 v3_2 v0_0 v1_0 v2_0 v5_0 v4_0 v7_0 v7_1 : Nat → Nat) : KP cs q6 q3 q0 q1 q2 q5 q4 q7 b v3_0 v3_1 v3_2 v0_0 v1_0 v2_0 v5_0 v4_0 v7_0 v7_1 39 := by
  intro q hk
  rw [wld_get (r := 39) (sh := .inr (0, 400)) rfl, cel_z0 (M0_z (by decide) (by decide) (by decide) (by decide) (by decide) (by decide))] at hk
  cases hk
  exact ⟨_, rfl, rfl, fun _ _ h => h⟩
set_option maxRecDepth 20000 in
theorem kp40 (cs : Cs) (q6 q3 q0 q1 q2 q5 q4 q7 b : Nat) (v3_0 v3_1 v3_2 v0_0 v1_0 v2_0 v5_0 v4_0 v7_0 v7_1 : Nat → Nat) : KP cs q6 q3 q0 q1 q2 q5 q4 q7 b v3_0 v3_1 v3_2 v0_0 v1_0 v2_0 v5_0 v4_0 v7_0 v7_1 40 := by
  intro q hk
  rw [wld_get (r := 40) (sh := .inr (0, 400)) rfl, cel_z0 (M0_z (by decide) (by decide) (by decide) (by decide) (by decide) (by decide))] at hk
  cases hk
  exact ⟨_, rfl, rfl, fun _ _ h => h⟩
set_option maxRecDepth 20000 in
theorem kp41 (cs : Cs) (q6 q3 q0 q1 q2 q5 q4 q7 b : Nat) (v3_0 v3_1 v3_2 v0_0 v1_0 v2_0 v5_0 v4_0 v7_0 v7_1 : Nat → Nat) : KP cs q6 q3 q0 q1 q2 q5 q4 q7 b v3_0 v3_1 v3_2 v0_0 v1_0 v2_0 v5_0 v4_0 v7_0 v7_1 41 := by
  intro q hk
  rw [wld_get (r := 41) (sh := .inr (0, 6)) rfl, cel_z0 (M0_z (by decide) (by decide) (by decide) (by decide) (by decide) (by decide))] at hk
  cases hk
  exact ⟨_, rfl, rfl, fun _ _ h => h⟩
set_option maxRecDepth 20000 in
theorem kp42 (cs : Cs) (q6 q3 q0 q1 q2 q5 q4 q7 b : Nat) (v3_0 v3_1 v3_2 v0_0 v1_0 v2_0 v5_0 v4_0 v7_0 v7_1 : Nat → Nat) : KP cs q6 q3 q0 q1 q2 q5 q4 q7 b v3_0 v3_1 v3_2 v0_0 v1_0 v2_0 v5_0 v4_0 v7_0 v7_1 42 := by
  intro q hk
  rw [wld_get (r := 42) (sh := .inr (1, 16)) rfl, cel_z1 (M0_z (by decide) (by decide) (by decide) (by decide) (by decide) (by decide))] at hk
  cases hk
  exact ⟨_, rfl, rfl, fun _ _ h => h⟩
set_option maxRecDepth 20000 in
theorem kp43 (cs : Cs) (q6 q3 q0 q1 q2 q5 q4 q7 b : Nat) (v3_0 v3_1 v3_2 v0_0 v1_0 v2_0 v5_0 v4_0 v7_0 v7_1 : Nat → Nat) : KP cs q6 q3 q0 q1 q2 q5 q4 q7 b v3_0 v3_1 v3_2 v0_0 v1_0 v2_0 v5_0 v4_0 v7_0 v7_1 43 := by
  intro q hk
  rw [wld_get (r := 43) (sh := .inr (0, 8)) rfl, cel_z0 (M0_z (by decide) (by decide) (by decide) (by decide) (by decide) (by decide))] at hk
  cases hk
  exact ⟨_, rfl, rfl, fun _ _ h => h⟩
set_option maxRecDepth 20000 in
theorem kp44 (cs : Cs) (q6 q3 q0 q1 q2 q5 q4 q7 b : Nat) (v3_0 v3_1 v3_2 v0_0 v1_0 v2_0 v5_0 v4_0 v7_0 v7_1 : Nat → Nat) : KP cs q6 q3 q0 q1 q2 q5 q4 q7 b v3_0 v3_1 v3_2 v0_0 v1_0 v2_0 v5_0 v4_0 v7_0 v7_1 44 := by
  intro q hk
  rw [wld_get (r := 44) (sh := .inr (0, 8)) rfl, cel_z0 (M0_z (by decide) (by decide) (by decide) (by decide) (by decide) (by decide))] at hk
  cases hk
  exact ⟨_, rfl, rfl, fun _ _ h => h⟩
set_option maxRecDepth 20000 in
theorem kp45 (cs : Cs) (q6 q3 q0 q1 q2 q5 q4 q7 b : Nat) (v3_0 v3_1 v3_2 v0_0 v1_0 v2_0 v5_0 v4_0 v7_0 v7_1 : Nat → Nat) : KP cs q6 q3 q0 q1 q2 q5 q4 q7 b v3_0 v3_1 v3_2 v0_0 v1_0 v2_0 v5_0 v4_0 v7_0 v7_1 45 := by
  intro q hk
  rw [wld_get (r := 45) (sh := .inr (0, 4)) rfl, cel_z0 (M0_z (by decide) (by decide) (by decide) (by decide) (by decide) (by decide))] at hk
  cases hk
  exact ⟨_, rfl, rfl, fun _ _ h => h⟩
set_option maxRecDepth 20000 in
theorem kp46 (cs : Cs) (q6 q3 q0 q1 q2 q5 q4 q7 b : Nat) (v3_0 v3_1 v3_2 v0_0 v1_0 v2_0 v5_0 v4_0 v7_0 v7_1 : Nat → Nat) : KP cs q6 q3 q0 q1 q2 q5 q4 q7 b v3_0 v3_1 v3_2 v0_0 v1_0 v2_0 v5_0 v4_0 v7_0 v7_1 46 := by
  intro q hk
  rw [wld_get (r := 46) (sh := .inr (0, 8)) rfl, cel_z0 (M0_z (by decide) (by decide) (by decide) (by decide) (by decide) (by decide))] at hk
  cases hk
  exact ⟨_, rfl, rfl, fun _ _ h => h⟩
set_option maxRecDepth 20000 in
theorem kp47 (cs : Cs) (q6 q3 q0 q1 q2 q5 q4 q7 b : Nat) (v3_0 v3_1 v3_2 v0_0 v1_0 v2_0 v5_0 v4_0 v7_0 v7_1 : Nat → Nat) : KP cs q6 q3 q0 q1 q2 q5 q4 q7 b v3_0 v3_1 v3_2 v0_0 v1_0 v2_0 v5_0 v4_0 v7_0 v7_1 47 := by
  intro q hk
  rw [wld_get (r := 47) (sh := .inl (7, [none, none, some 48, some 49, some 50, some 51, some 52, some 53, some 54, some 55, none, some 56, some 57, none, none, none, none, some 58, some 59, some 60, some 61, some 62, some 63, some 64, some 65, some 66, some 67, some 68, none, none, some 69, none, some 70, some 71, some 72, some 73])) rfl, ob47] at hk
  cases hk
  exact ⟨_, rfl, rfl, fun _ _ h => h⟩
set_option maxRecDepth 20000 in
theorem kp48 (cs : Cs) (q6 q3 q0 q1 q2 q5 q4 q7 b : Nat) (v3_0 v3_1 v3_2 v0_0 v1_0 v2_0 v5_0 v4_0 v7_0 v7_1 : Nat → Nat) : KP cs q6 q3 q0 q1 q2 q5 q4 q7 b v3_0 v3_1 v3_2 v0_0 v1_0 v2_0 v5_0 v4_0 v7_0 v7_1 48 := by
  intro q hk
  rw [wld_get (r := 48) (sh := .inr (0, 4)) rfl, cel_z0 (M0_z (by decide) (by decide) (by decide) (by decide) (by decide) (by decide))] at hk
  cases hk
  exact ⟨_, rfl, rfl, fun _ _ h => h⟩
set_option maxRecDepth 20000 in
theorem kp49 (cs : Cs) (q6 q3 q0 q1 q2 q5 q4 q7 b : Nat) (v3_0 v3_1 v3_2 v0_0 v1_0 v2_0 v5_0 v4_0 v7_0 v7_1 : Nat → Nat) : KP cs q6 q3 q0 q1 q2 q5 q4 q7 b v3_0 v3_1 v3_2 v0_0 v1_0 v2_0 v5_0 v4_0 v7_0 v7_1 49 := by
  intro q hk
  rw [wld_get (r := 49) (sh := .inr (0, 4)) rfl, cel_z0 (M0_z (by decide) (by decide) (by decide) (by decide) (by decide) (by decide))] at hk
  cases hk
  exact ⟨_, rfl, rfl, fun _ _ h => h⟩
set_option maxRecDepth 20000 in
theorem kp50 (cs : Cs) (q6 q3 q0 q1 q2 q5 q4 q7 b : Nat) (v3_0 v3_1 v3_2 v0_0 v1_0 v2_0 v5_0 v4_0 v7_0 v7_1 : Nat → Nat) : KP cs q6 q3 q0 q1 q2 q5 q4 q7 b v3_0 v3_1 v3_2 v0_0 v1_0 v2_0 v5_0 v4_0 v7_0 v7_1 50 := by
  intro q hk
  rw [wld_get (r := 50) (sh := .inr (1, 4)) rfl, cel_z1 (M0_z (by decide) (by decide) (by decide) (by decide) (by decide) (by decide))] at hk
  cases hk
  exact ⟨_, rfl, rfl, fun _ _ h => h⟩
set_option maxRecDepth 20000 in
theorem kp51 (cs : Cs) (q6 q3 q0 q1 q2 q5 q4 q7 b : Nat) (v3_0 v3_1 v3_2 v0_0 v1_0 v2_0 v5_0 v4_0 v7_0 v7_1 : Nat → Nat) : KP cs q6 q3 q0 q1 q2 q5 q4 q7 b v3_0 v3_1 v3_2 v0_0 v1_0 v2_0 v5_0 v4_0 v7_0 v7_1 51 := by
  intro q hk
  rw [wld_get (r := 51) (sh := .inr (0, 4)) rfl, cel_z0 (M0_z (by decide) (by decide) (by decide) (by decide) (by decide) (by decide))] at hk
  cases hk
  exact ⟨_, rfl, rfl, fun _ _ h => h⟩
set_option maxRecDepth 20000 in
theorem kp52 (cs : Cs) (q6 q3 q0 q1 q2 q5 q4 q7 b : Nat) (v3_0 v3_1 v3_2 v0_0 v1_0 v2_0 v5_0 v4_0 v7_0 v7_1 : Nat → Nat) : KP cs q6 q3 q0 q1 q2 q5 q4 q7 b v3_0 v3_1 v3_2 v0_0 v1_0 v2_0 v5_0 v4_0 v7_0 v7_1 52 := by
  intro q hk
  rw [wld_get (r := 52) (sh := .inr (0, 8)) rfl, cel_6 (M0_6 (by omega))] at hk
  cases hk
  exact ⟨_, rfl, rfl, fun _ _ h => at_6 h⟩
set_option maxRecDepth 20000 in
theorem kp53 (cs : Cs) (q6 q3 q0 q1 q2 q5 q4 q7 b : Nat) (v3_0 v3_1 v3_2 v0_0 v1_0 v2_0 v5_0 v4_0 v7_0 v7_1 : Nat → Nat) : KP cs q6 q3 q0 q1 q2 q5 q4 q7 b v3_0 v3_1 v3_2 v0_0 v1_0 v2_0 v5_0 v4_0 v7_0 v7_1 53 := by
  intro q hk
  rw [wld_get (r := 53) (sh := .inr (0, 8)) rfl, cel_6 (M0_6 (by omega))] at hk
  cases hk
  exact ⟨_, rfl, rfl, fun _ _ h => at_6 h⟩
set_option maxRecDepth 20000 in
theorem kp54 (cs : Cs) (q6 q3 q0 q1 q2 q5 q4 q7 b : Nat) (v3_0 v3_1 v3_2 v0_0 v1_0 v2_0 v5_0 v4_0 v7_0 v7_1 : Nat → Nat) : KP cs q6 q3 q0 q1 q2 q5 q4 q7 b v3_0 v3_1 v3_2 v0_0 v1_0 v2_0 v5_0 v4_0 v7_0 v7_1 54 := by
  intro q hk
  rw [wld_get (r := 54) (sh := .inr (1, 8)) rfl, cel_z1 (M0_z (by decide) (by decide) (by decide) (by decide) (by decide) (by decide))] at hk
  cases hk
  exact ⟨_, rfl, rfl, fun _ _ h => h⟩
set_option maxRecDepth 20000 in
theorem kp55 (cs : Cs) (q6 q3 q0 q1 q2 q5 q4 q7 b : Nat) (v3_0 v3_1 v3_2 v0_0 v1_0 v2_0 v5_0 v4_0 v7_0 v7_1 : Nat → Nat) : KP cs q6 q3 q0 q1 q2 q5 q4 q7 b v3_0 v3_1 v3_2 v0_0 v1_0 v2_0 v5_0 v4_0 v7_0 v7_1 55 := by
  intro q hk
  rw [wld_get (r := 55) (sh := .inr (0, 8)) rfl, cel_z0 (M0_z (by decide) (by decide) (by decide) (by decide) (by decide) (by decide))] at hk
  cases hk
  exact ⟨_, rfl, rfl, fun _ _ h => h⟩
set_option maxRecDepth 20000 in
theorem kp56 (cs : Cs) (q6 q3 q0 q1 q2 q5 q4 q7 b : Nat) (v3_0 v3_1 v3_2 v0_0 v1_0 v2_0 v5_0 v4_0 v7_0 v7_1 : Nat → Nat) : KP cs q6 q3 q0 q1 q2 q5 q4 q7 b v3_0 v3_1 v3_2 v0_0 v1_0 v2_0 v5_0 v4_0 v7_0 v7_1 56 := by
  intro q hk
  rw [wld_get (r := 56) (sh := .inr (0, 16)) rfl, cel_z0 (M0_z (by decide) (by decide) (by decide) (by decide) (by decide) (by decide))] at hk
  cases hk
  exact ⟨_, rfl, rfl, fun _ _ h => h⟩
set_option maxRecDepth 20000 in
theorem kp57 (cs : Cs) (q6 q3 q0 q1 q2 q5 q4 q7 b : Nat) (v3_0 v3_1 v3_2 v0_0 v1_0 v2_0 v5_0 v4_0 v7_0 v7_1 : Nat → Nat) : KP cs q6 q3 q0 q1 q2 q5 q4 q7 b v3_0 v3_1 v3_2 v0_0 v1_0 v2_0 v5_0 v4_0 v7_0 v7_1 57 := by
  intro q hk
  rw [wld_get (r := 57) (sh := .inr (0, 16)) rfl, cel_z0 (M0_z (by decide) (by decide) (by decide) (by decide) (by decide) (by decide))] at hk
  cases hk
  exact ⟨_, rfl, rfl, fun _ _ h => h⟩
set_option maxRecDepth 20000 in
theorem kp58 (cs : Cs) (q6 q3 q0 q1 q2 q5 q4 q7 b : Nat) (v3_0 v3_1 v3_2 v0_0 v1_0 v2_0 v5_0 v4_0 v7_0 v7_1 : Nat → Nat) : KP cs q6 q3 q0 q1 q2 q5 q4 q7 b v3_0 v3_1 v3_2 v0_0 v1_0 v2_0 v5_0 v4_0 v7_0 v7_1 58 := by
  intro q hk
  rw [wld_get (r := 58) (sh := .inr (0, 400)) rfl, cel_z0 (M0_z (by decide) (by decide) (by decide) (by decide) (by decide) (by decide))] at hk
  cases hk
  exact ⟨_, rfl, rfl, fun _ _ h => h⟩
set_option maxRecDepth 20000 in
theorem kp59 (cs : Cs) (q6 q3 q0 q1 q2 q5 q4 q7 b : Nat) (v3_0 v3_1 v3_2 v0_0 v1_0 v2_0 v5_0 v4_0 v7_0 v7_1 : Nat → Nat) : KP cs q6 q3 q0 q1 q2 q5 q4 q7 b v3_0 v3_1 v3_2 v0_0 v1_0 v2_0 v5_0 v4_0 v7_0 v7_1 59 := by
  intro q hk
  rw [wld_get (r := 59) (sh := .inr (0, 400)) rfl, cel_z0 (M0_z (by decide) (by decide) (by decide) (by decide) (by decide) (by decide))] at hk
  cases hk
  exact ⟨_, rfl, rfl, fun _ _ h => h⟩
set_option maxRecDepth 20000 in
theorem kp60 (cs : Cs) (q6 q3 q0 q1 q2 q5 q4 q7 b : Nat) (v3_0 v3_1 v3_2 v0_0 v1_0 v2_0 v5_0 v4_0 v7_0 v7_1 : Nat → Nat) : KP cs q6 q3 q0 q1 q2 q5 q4 q7 b v3_0 v3_1 v3_2 v0_0 v1_0 v2_0 v5_0 v4_0 v7_0 v7_1 60 := by
  intro q hk
  rw [wld_get (r := 60) (sh := .inr (0, 400)) rfl, cel_z0 (M0_z (by decide) (by decide) (by decide) (by decide) (by decide) (by decide))] at hk
  cases hk
  exact ⟨_, rfl, rfl, fun _ _ h => h⟩
set_option maxRecDepth 20000 in
theorem kp61 (cs : Cs) (q6 q3 q0 q1 q2 q5 q4 q7 b : Nat) (v3_0 v3_1 v3_2 v0_0 v1_0 v2_0 v5_0 v4_0 v7_0 v7_1 : Nat → Nat) : KP cs q6 q3 q0 q1 q2 q5 q4 q7 b v3_0 v3_1 v3_2 v0_0 v1_0 v2_0 v5_0 v4_0 v7_0 v7_1 61 := by
  intro q hk
  rw [wld_get (r := 61) (sh := .inr (0, 400)) rfl, cel_z0 (M0_z (by decide) (by decide) (by decide) (by decide) (by decide) (by decide))] at hk
  cases hk
  exact ⟨_, rfl, rfl, fun _ _ h => h⟩
set_option maxRecDepth 20000 in
theorem kp62 (cs : Cs) (q6 q3 q0 q1 q2 q5 q4 q7 b : Nat) (v3_0 v3_1 v3_2 v0_0 v1_0 v2_0 v5_0 v4_0 v7_0 v7_1 : Nat → Nat) : KP cs q6 q3 q0 q1 q2 q5 q4 q7 b v3_0 v3_1 v3_2 v0_0 v1_0 v2_0 v5_0 v4_0 v7_0 v7_1 62 := by
  intro q hk
  rw [wld_get (r := 62) (sh := .inr (0, 400)) rfl, cel_z0 (M0_z (by decide) (by decide) (by decide) (by decide) (by decide) (by decide))] at hk
  cases hk
  exact ⟨_, rfl, rfl, fun _ _ h => h⟩
set_option maxRecDepth 20000 in
theorem kp63 (cs : Cs) (q6 q3 q0 q1 q2 q5 q4 q7 b : Nat) (v3_0 v3_1 v3_2 v0_0 v1_0 v2_0 v5_0 v4_0 v7_0 v7_1 : Nat → Nat) : KP cs q6 q3 q0 q1 q2 q5 q4 q7 b v3_0 v3_1 v3_2 v0_0 v1_0 v2_0 v5_0 v4_0 v7_0 v7_1 63 := by
  intro q hk
  rw [wld_get (r := 63) (sh := .inr (0, 400)) rfl, cel_z0 (M0_z (by decide) (by decide) (by decide) (by decide) (by decide) (by decide))] at hk
  cases hk
  exact ⟨_, rfl, rfl, fun _ _ h => h⟩
set_option maxRecDepth 20000 in
theorem kp64 (cs : Cs) (q6 q3 q0 q1 q2 q5 q4 q7 b : Nat) (v3_0 v3_1 v3_2 v0_0 v1_0 v2_0 v5_0 v4_0 v7_0 v7_1 : Nat → Nat) : KP cs q6 q3 q0 q1 q2 q5 q4 q7 b v3_0 v3_1 v3_2 v0_0 v1_0 v2_0 v5_0 v4_0 v7_0 v7_1 64 := by
  intro q hk
  rw [wld_get (r := 64) (sh := .inr (0, 400)) rfl, cel_z0 (M0_z (by decide) (by decide) (by decide) (by decide) (by decide) (by decide))] at hk
  cases hk
  exact ⟨_, rfl, rfl, fun _ _ h => h⟩
set_option maxRecDepth 20000 in
theorem kp65 (cs : Cs) (q6 q3 q0 q1 q2 q5 q4 q7 b : Nat) (v3_0 v3_1 v3_2 v0_0 v1_0 v2_0 v5_0 v4_0 v7_0 v7_1 : Nat → Nat) : KP cs q6 q3 q0 q1 q2 q5 q4 q7 b v3_0 v3_1 v3_2 v0_0 v1_0 v2_0 v5_0 v4_0 v7_0 v7_1 65 := by
  intro q hk
  rw [wld_get (r := 65) (sh := .inr (0, 400)) rfl, cel_z0 (M0_z (by decide) (by decide) (by decide) (by decide) (by decide) (by decide))] at hk
  cases hk
  exact ⟨_, rfl, rfl, fun _ _ h => h⟩
set_option maxRecDepth 20000 in
theorem kp66 (cs : Cs) (q6 q3 q0 q1 q2 q5 q4 q7 b : Nat) (v3_0 v3_1 v3_2 v0_0 v1_0 v2_0 v5_0 v4_0 v7_0 v7_1 : Nat → Nat) : KP cs q6 q3 q0 q1 q2 q5 q4 q7 b v3_0 v3_1 v3_2 v0_0 v1_0 v2_0 v5_0 v4_0 v7_0 v7_1 66 := by
  intro q hk
  rw [wld_get (r := 66) (sh := .inr (0, 400)) rfl, cel_z0 (M0_z (by decide) (by decide) (by decide) (by decide) (by decide) (by decide))] at hk
  cases hk
  exact ⟨_, rfl, rfl, fun _ _ h => h⟩
set_option maxRecDepth 20000 in
theorem kp67 (cs : Cs) (q6 q3 q0 q1 q2 q5 q4 q7 b : Nat) (v3_0 v3_1 v3_2 v0_0 v1_0 v2_0 v5_0 v4_0 v7_0 v7_1 : Nat → Nat) : KP cs q6 q3 q0 q1 q2 q5 q4 q7 b v3_0 v3_1 v3_2 v0_0 v1_0 v2_0 v5_0 v4_0 v7_0 v7_1 67 := by
  intro q hk
  rw [wld_get (r := 67) (sh := .inr (0, 400)) rfl, cel_z0 (M0_z (by decide) (by decide) (by decide) (by decide) (by decide) (by decide))] at hk
  cases hk
  exact ⟨_, rfl, rfl, fun _ _ h => h⟩
set_option maxRecDepth 20000 in
theorem kp68 (cs : Cs) (q6 q3 q0 q1 q2 q5 q4 q7 b : Nat) (v3_0 v3_1 v3_2 v0_0 v1_0 v2_0 v5_0 v4_0 v7_0 v7_1 : Nat → Nat) : KP cs q6 q3 q0 q1 q2 q5 q4 q7 b v3_0 v3_1 v3_2 v0_0 v1_0 v2_0 v5_0 v4_0 v7_0 v7_1 68 := by
  intro q hk
  rw [wld_get (r := 68) (sh := .inr (0, 400)) rfl, cel_z0 (M0_z (by decide) (by decide) (by decide) (by decide) (by decide) (by decide))] at hk
  cases hk
  exact ⟨_, rfl, rfl, fun _ _ h => h⟩
set_option maxRecDepth 20000 in
theorem kp69 (cs : Cs) (q6 q3 q0 q1 q2 q5 q4 q7 b : Nat) (v3_0 v3_1 v3_2 v0_0 v1_0 v2_0 v5_0 v4_0 v7_0 v7_1 : Nat → Nat) : KP cs q6 q3 q0 q1 q2 q5 q4 q7 b v3_0 v3_1 v3_2 v0_0 v1_0 v2_0 v5_0 v4_0 v7_0 v7_1 69 := by
  intro q hk
  rw [wld_get (r := 69) (sh := .inr (0, 400)) rfl, cel_z0 (M0_z (by decide) (by decide) (by decide) (by decide) (by decide) (by decide))] at hk
  cases hk
  exact ⟨_, rfl, rfl, fun _ _ h => h⟩
set_option maxRecDepth 20000 in
theorem kp70 (cs : Cs) (q6 q3 q0 q1 q2 q5 q4 q7 b : Nat) (v3_0 v3_1 v3_2 v0_0 v1_0 v2_0 v5_0 v4_0 v7_0 v7_1 : Nat → Nat) : KP cs q6 q3 q0 q1 q2 q5 q4 q7 b v3_0 v3_1 v3_2 v0_0 v1_0 v2_0 v5_0 v4_0 v7_0 v7_1 70 := by
  intro q hk
  rw [wld_get (r := 70) (sh := .inr (0, 8)) rfl, cel_z0 (M0_z (by decide) (by decide) (by decide) (by decide) (by decide) (by decide))] at hk
  cases hk
  exact ⟨_, rfl, rfl, fun _ _ h => h⟩
set_option maxRecDepth 20000 in
theorem kp71 (cs : Cs) (q6 q3 q0 q1 q2 q5 q4 q7 b : Nat) (v3_0 v3_1 v3_2 v0_0 v1_0 v2_0 v5_0 v4_0 v7_0 v7_1 : Nat → Nat) : KP cs q6 q3 q0 q1 q2 q5 q4 q7 b v3_0 v3_1 v3_2 v0_0 v1_0 v2_0 v5_0 v4_0 v7_0 v7_1 71 := by
  intro q hk
  rw [wld_get (r := 71) (sh := .inr (0, 4)) rfl, cel_z0 (M0_z (by decide) (by decide) (by decide) (by decide) (by decide) (by decide))] at hk
  cases hk
  exact ⟨_, rfl, rfl, fun _ _ h => h⟩
set_option maxRecDepth 20000 in
theorem kp72 (cs : Cs) (q6 q3 q0 q1 q2 q5 q4 q7 b : Nat) (v3_0 v3_1 v3_2 v0_0 v1_0 v2_0 v5_0 v4_0 v7_0 v7_1 : Nat → Nat) : KP cs q6 q3 q0 q1 q2 q5 q4 q7 b v3_0 v3_1 v3_2 v0_0 v1_0 v2_0 v5_0 v4_0 v7_0 v7_1 72 := by
  intro q hk
  rw [wld_get (r := 72) (sh := .inr (0, 8)) rfl, cel_z0 (M0_z (by decide) (by decide) (by decide) (by decide) (by decide) (by decide))] at hk
  cases hk
  exact ⟨_, rfl, rfl, fun _ _ h => h⟩
set_option maxRecDepth 20000 in
theorem kp73 (cs : Cs) (q6 q3 q0 q1 q2 q5 q4 q7 b : Nat) (v3_0 v3_1 v3_2 v0_0 v1_0 v2_0 v5_0 v4_0 v7_0 v7_1 : Nat → Nat) : KP cs q6 q3 q0 q1 q2 q5 q4 q7 b v3_0 v3_1 v3_2 v0_0 v1_0 v2_0 v5_0 v4_0 v7_0 v7_1 73 := by
  intro q hk
  rw [wld_get (r := 73) (sh := .inr (0, 8)) rfl, cel_z0 (M0_z (by decide) (by decide) (by decide) (by decide) (by decide) (by decide))] at hk
  cases hk
  exact ⟨_, rfl, rfl, fun _ _ h => h⟩
def AllP (P : Nat → Prop) : Nat → Nat → Prop
  | _, 0 => True
  | i, n + 1 => P i ∧ AllP P (i + 1) n
theorem AllP_at {P : Nat → Prop} : ∀ (n i : Nat), AllP P i n → ∀ k, i ≤ k → k < i + n → P k
  | 0, i, _, k, h1, h2 => by omega
  | n + 1, i, h, k, h1, h2 => by
    by_cases e : k = i
    · subst e
      exact h.1
    · exact AllP_at n (i + 1) h.2 k (by omega) (by omega)
theorem key_lt {cs : Cs} {ad : Nat → Nat} {M : Mem} {k : Nat} {q : Nat × va_E} (hk : (wld cs ad M)[k]? = some q) : k < 74 := by
  have h := (List.getElem?_eq_some_iff.mp hk).1
  rwa [wld_len] at h
set_option maxRecDepth 20000 in
theorem key (cs : Cs) (q6 q3 q0 q1 q2 q5 q4 q7 b : Nat) (v3_0 v3_1 v3_2 v0_0 v1_0 v2_0 v5_0 v4_0 v7_0 v7_1 : Nat → Nat) (k : Nat) (hk : k < 74) : KP cs q6 q3 q0 q1 q2 q5 q4 q7 b v3_0 v3_1 v3_2 v0_0 v1_0 v2_0 v5_0 v4_0 v7_0 v7_1 k := AllP_at 74 0 ⟨kp0 cs q6 q3 q0 q1 q2 q5 q4 q7 b v3_0 v3_1 v3_2 v0_0 v1_0 v2_0 v5_0 v4_0 v7_0 v7_1, kp1 cs q6 q3 q0 q1 q2 q5 q4 q7 b v3_0 v3_1 v3_2 v0_0 v1_0 v2_0 v5_0 v4_0 v7_0 v7_1, kp2 cs q6 q3 q0 q1 q2 q5 q4 q7 b v3_0 v3_1 v3_2 v0_0 v1_0 v2_0 v5_0 v4_0 v7_0 v7_1, kp3 cs q6 q3 q0 q1 q2 q5 q4 q7 b v3_0 v3_1 v3_2 v0_0 v1_0 v2_0 v5_0 v4_0 v7_0 v7_1, kp4 cs q6 q3 q0 q1 q2 q5 q4 q7 b v3_0 v3_1 v3_2 v0_0 v1_0 v2_0 v5_0 v4_0 v7_0 v7_1, kp5 cs q6 q3 q0 q1 q2 q5 q4 q7 b v3_0 v3_1 v3_2 v0_0 v1_0 v2_0 v5_0 v4_0 v7_0 v7_1, kp6 cs q6 q3 q0 q1 q2 q5 q4 q7 b v3_0 v3_1 v3_2 v0_0 v1_0 v2_0 v5_0 v4_0 v7_0 v7_1, kp7 cs q6 q3 q0 q1 q2 q5 q4 q7 b v3_0 v3_1 v3_2 v0_0 v1_0 v2_0 v5_0 v4_0 v7_0 v7_1, kp8 cs q6 q3 q0 q1 q2 q5 q4 q7 b v3_0 v3_1 v3_2 v0_0 v1_0 v2_0 v5_0 v4_0 v7_0 v7_1, kp9 cs q6 q3 q0 q1 q2 q5 q4 q7 b v3_0 v3_1 v3_2 v0_0 v1_0 v2_0 v5_0 v4_0 v7_0 v7_1, kp10 cs q6 q3 q0 q1 q2 q5 q4 q7 b v3_0 v3_1 v3_2 v0_0 v1_0 v2_0 v5_0 v4_0 v7_0 v7_1, kp11 cs q6 q3 q0 q1 q2 q5 q4 q7 b v3_0 v3_1 v3_2 v0_0 v1_0 v2_0 v5_0 v4_0 v7_0 v7_1, kp12 cs q6 q3 q0 q1 q2 q5 q4 q7 b v3_0 v3_1 v3_2 v0_0 v1_0 v2_0 v5_0 v4_0 v7_0 v7_1, kp13 cs q6 q3 q0 q1 q2 q5 q4 q7 b v3_0 v3_1 v3_2 v0_0 v1_0 v2_0 v5_0 v4_0 v7_0 v7_1, kp14 cs q6 q3 q0 q1 q2 q5 q4 q7 b v3_0 v3_1 v3_2 v0_0 v1_0 v2_0 v5_0 v4_0 v7_0 v7_1, kp15 cs q6 q3 q0 q1 q2 q5 q4 q7 b v3_0 v3_1 v3_2 v0_0 v1_0 v2_0 v5_0 v4_0 v7_0 v7_1, kp16 cs q6 q3 q0 q1 q2 q5 q4 q7 b v3_0 v3_1 v3_2 v0_0 v1_0 v2_0 v5_0 v4_0 v7_0 v7_1, kp17 cs q6 q3 q0 q1 q2 q5 q4 q7 b v3_0 v3_1 v3_2 v0_0 v1_0 v2_0 v5_0 v4_0 v7_0 v7_1, kp18 cs q6 q3 q0 q1 q2 q5 q4 q7 b v3_0 v3_1 v3_2 v0_0 v1_0 v2_0 v5_0 v4_0 v7_0 v7_1, kp19 cs q6 q3 q0 q1 q2 q5 q4 q7 b v3_0 v3_1 v3_2 v0_0 v1_0 v2_0 v5_0 v4_0 v7_0 v7_1, kp20 cs q6 q3 q0 q1 q2 q5 q4 q7 b v3_0 v3_1 v3_2 v0_0 v1_0 v2_0 v5_0 v4_0 v7_0 v7_1, kp21 cs q6 q3 q0 q1 q2 q5 q4 q7 b v3_0 v3_1 v3_2 v0_0 v1_0 v2_0 v5_0 v4_0 v7_0 v7_1, kp22 cs q6 q3 q0 q1 q2 q5 q4 q7 b v3_0 v3_1 v3_2 v0_0 v1_0 v2_0 v5_0 v4_0 v7_0 v7_1, kp23 cs q6 q3 q0 q1 q2 q5 q4 q7 b v3_0 v3_1 v3_2 v0_0 v1_0 v2_0 v5_0 v4_0 v7_0 v7_1, kp24 cs q6 q3 q0 q1 q2 q5 q4 q7 b v3_0 v3_1 v3_2 v0_0 v1_0 v2_0 v5_0 v4_0 v7_0 v7_1, kp25 cs q6 q3 q0 q1 q2 q5 q4 q7 b v3_0 v3_1 v3_2 v0_0 v1_0 v2_0 v5_0 v4_0 v7_0 v7_1, kp26 cs q6 q3 q0 q1 q2 q5 q4 q7 b v3_0 v3_1 v3_2 v0_0 v1_0 v2_0 v5_0 v4_0 v7_0 v7_1, kp27 cs q6 q3 q0 q1 q2 q5 q4 q7 b v3_0 v3_1 v3_2 v0_0 v1_0 v2_0 v5_0 v4_0 v7_0 v7_1, kp28 cs q6 q3 q0 q1 q2 q5 q4 q7 b v3_0 v3_1 v3_2 v0_0 v1_0 v2_0 v5_0 v4_0 v7_0 v7_1, kp29 cs q6 q3 q0 q1 q2 q5 q4 q7 b v3_0 v3_1 v3_2 v0_0 v1_0 v2_0 v5_0 v4_0 v7_0 v7_1, kp30 cs q6 q3 q0 q1 q2 q5 q4 q7 b v3_0 v3_1 v3_2 v0_0 v1_0 v2_0 v5_0 v4_0 v7_0 v7_1, kp31 cs q6 q3 q0 q1 q2 q5 q4 q7 b v3_0 v3_1 v3_2 v0_0 v1_0 v2_0 v5_0 v4_0 v7_0 v7_1, kp32 cs q6 q3 q0 q1 q2 q5 q4 q7 b v3_0 v3_1 v3_2 v0_0 v1_0 v2_0 v5_0 v4_0 v7_0 v7_1, kp33 cs q6 q3 q0 q1 q2 q5 q4 q7 b v3_0 v3_1 v3_2 v0_0 v1_0 v2_0 v5_0 v4_0 v7_0 v7_1, kp34 cs q6 q3 q0 q1 q2 q5 q4 q7 b v3_0 v3_1 v3_2 v0_0 v1_0 v2_0 v5_0 v4_0 v7_0 v7_1, kp35 cs q6 q3 q0 q1 q2 q5 q4 q7 b v3_0 v3_1 v3_2 v0_0 v1_0 v2_0 v5_0 v4_0 v7_0 v7_1, kp36 cs q6 q3 q0 q1 q2 q5 q4 q7 b v3_0 v3_1 v3_2 v0_0 v1_0 v2_0 v5_0 v4_0 v7_0 v7_1, kp37 cs q6 q3 q0 q1 q2 q5 q4 q7 b v3_0 v3_1 v3_2 v0_0 v1_0 v2_0 v5_0 v4_0 v7_0 v7_1, kp38 cs q6 q3 q0 q1 q2 q5 q4 q7 b v3_0 v3_1 v3_2 v0_0 v1_0 v2_0 v5_0 v4_0 v7_0 v7_1, kp39 cs q6 q3 q0 q1 q2 q5 q4 q7 b v3_0 v3_1 v3_2 v0_0 v1_0 v2_0 v5_0 v4_0 v7_0 v7_1, kp40 cs q6 q3 q0 q1 q2 q5 q4 q7 b v3_0 v3_1 v3_2 v0_0 v1_0 v2_0 v5_0 v4_0 v7_0 v7_1, kp41 cs q6 q3 q0 q1 q2 q5 q4 q7 b v3_0 v3_1 v3_2 v0_0 v1_0 v2_0 v5_0 v4_0 v7_0 v7_1, kp42 cs q6 q3 q0 q1 q2 q5 q4 q7 b v3_0 v3_1 v3_2 v0_0 v1_0 v2_0 v5_0 v4_0 v7_0 v7_1, kp43 cs q6 q3 q0 q1 q2 q5 q4 q7 b v3_0 v3_1 v3_2 v0_0 v1_0 v2_0 v5_0 v4_0 v7_0 v7_1, kp44 cs q6 q3 q0 q1 q2 q5 q4 q7 b v3_0 v3_1 v3_2 v0_0 v1_0 v2_0 v5_0 v4_0 v7_0 v7_1, kp45 cs q6 q3 q0 q1 q2 q5 q4 q7 b v3_0 v3_1 v3_2 v0_0 v1_0 v2_0 v5_0 v4_0 v7_0 v7_1, kp46 cs q6 q3 q0 q1 q2 q5 q4 q7 b v3_0 v3_1 v3_2 v0_0 v1_0 v2_0 v5_0 v4_0 v7_0 v7_1, kp47 cs q6 q3 q0 q1 q2 q5 q4 q7 b v3_0 v3_1 v3_2 v0_0 v1_0 v2_0 v5_0 v4_0 v7_0 v7_1, kp48 cs q6 q3 q0 q1 q2 q5 q4 q7 b v3_0 v3_1 v3_2 v0_0 v1_0 v2_0 v5_0 v4_0 v7_0 v7_1, kp49 cs q6 q3 q0 q1 q2 q5 q4 q7 b v3_0 v3_1 v3_2 v0_0 v1_0 v2_0 v5_0 v4_0 v7_0 v7_1, kp50 cs q6 q3 q0 q1 q2 q5 q4 q7 b v3_0 v3_1 v3_2 v0_0 v1_0 v2_0 v5_0 v4_0 v7_0 v7_1, kp51 cs q6 q3 q0 q1 q2 q5 q4 q7 b v3_0 v3_1 v3_2 v0_0 v1_0 v2_0 v5_0 v4_0 v7_0 v7_1, kp52 cs q6 q3 q0 q1 q2 q5 q4 q7 b v3_0 v3_1 v3_2 v0_0 v1_0 v2_0 v5_0 v4_0 v7_0 v7_1, kp53 cs q6 q3 q0 q1 q2 q5 q4 q7 b v3_0 v3_1 v3_2 v0_0 v1_0 v2_0 v5_0 v4_0 v7_0 v7_1, kp54 cs q6 q3 q0 q1 q2 q5 q4 q7 b v3_0 v3_1 v3_2 v0_0 v1_0 v2_0 v5_0 v4_0 v7_0 v7_1, kp55 cs q6 q3 q0 q1 q2 q5 q4 q7 b v3_0 v3_1 v3_2 v0_0 v1_0 v2_0 v5_0 v4_0 v7_0 v7_1, kp56 cs q6 q3 q0 q1 q2 q5 q4 q7 b v3_0 v3_1 v3_2 v0_0 v1_0 v2_0 v5_0 v4_0 v7_0 v7_1, kp57 cs q6 q3 q0 q1 q2 q5 q4 q7 b v3_0 v3_1 v3_2 v0_0 v1_0 v2_0 v5_0 v4_0 v7_0 v7_1, kp58 cs q6 q3 q0 q1 q2 q5 q4 q7 b v3_0 v3_1 v3_2 v0_0 v1_0 v2_0 v5_0 v4_0 v7_0 v7_1, kp59 cs q6 q3 q0 q1 q2 q5 q4 q7 b v3_0 v3_1 v3_2 v0_0 v1_0 v2_0 v5_0 v4_0 v7_0 v7_1, kp60 cs q6 q3 q0 q1 q2 q5 q4 q7 b v3_0 v3_1 v3_2 v0_0 v1_0 v2_0 v5_0 v4_0 v7_0 v7_1, kp61 cs q6 q3 q0 q1 q2 q5 q4 q7 b v3_0 v3_1 v3_2 v0_0 v1_0 v2_0 v5_0 v4_0 v7_0 v7_1, kp62 cs q6 q3 q0 q1 q2 q5 q4 q7 b v3_0 v3_1 v3_2 v0_0 v1_0 v2_0 v5_0 v4_0 v7_0 v7_1, kp63 cs q6 q3 q0 q1 q2 q5 q4 q7 b v3_0 v3_1 v3_2 v0_0 v1_0 v2_0 v5_0 v4_0 v7_0 v7_1, kp64 cs q6 q3 q0 q1 q2 q5 q4 q7 b v3_0 v3_1 v3_2 v0_0 v1_0 v2_0 v5_0 v4_0 v7_0 v7_1, kp65 cs q6 q3 q0 q1 q2 q5 q4 q7 b v3_0 v3_1 v3_2 v0_0 v1_0 v2_0 v5_0 v4_0 v7_0 v7_1, kp66 cs q6 q3 q0 q1 q2 q5 q4 q7 b v3_0 v3_1 v3_2 v0_0 v1_0 v2_0 v5_0 v4_0 v7_0 v7_1, kp67 cs q6 q3 q0 q1 q2 q5 q4 q7 b v3_0 v3_1 v3_2 v0_0 v1_0 v2_0 v5_0 v4_0 v7_0 v7_1, kp68 cs q6 q3 q0 q1 q2 q5 q4 q7 b v3_0 v3_1 v3_2 v0_0 v1_0 v2_0 v5_0 v4_0 v7_0 v7_1, kp69 cs q6 q3 q0 q1 q2 q5 q4 q7 b v3_0 v3_1 v3_2 v0_0 v1_0 v2_0 v5_0 v4_0 v7_0 v7_1, kp70 cs q6 q3 q0 q1 q2 q5 q4 q7 b v3_0 v3_1 v3_2 v0_0 v1_0 v2_0 v5_0 v4_0 v7_0 v7_1, kp71 cs q6 q3 q0 q1 q2 q5 q4 q7 b v3_0 v3_1 v3_2 v0_0 v1_0 v2_0 v5_0 v4_0 v7_0 v7_1, kp72 cs q6 q3 q0 q1 q2 q5 q4 q7 b v3_0 v3_1 v3_2 v0_0 v1_0 v2_0 v5_0 v4_0 v7_0 v7_1, kp73 cs q6 q3 q0 q1 q2 q5 q4 q7 b v3_0 v3_1 v3_2 v0_0 v1_0 v2_0 v5_0 v4_0 v7_0 v7_1, trivial⟩ k (Nat.zero_le k) (by omega)
theorem key_P (cs : Cs) (q6 q3 q0 q1 q2 q5 q4 q7 b : Nat) (v3_0 v3_1 v3_2 v0_0 v1_0 v2_0 v5_0 v4_0 v7_0 v7_1 : Nat → Nat) {D : va_G} {H : Heap} (h : va_P D vwCl (wsL cs q6 q3 q0 q1 q2 q5 q4 q7 b v3_0 v3_1 v3_2 v0_0 v1_0 v2_0 v5_0 v4_0 v7_0 v7_1) H) : va_P D vwCl (wld cs (nthN (adL q6 q3 q0 q1 q2 q5 q4 q7 b v3_0 v3_1 v3_2 v0_0 v1_0 v2_0 v5_0 v4_0 v7_0 v7_1)) M0) H := by
  intro k q hk
  obtain ⟨z0, h1, -, h3⟩ := key cs q6 q3 q0 q1 q2 q5 q4 q7 b v3_0 v3_1 v3_2 v0_0 v1_0 v2_0 v5_0 v4_0 v7_0 v7_1 k (key_lt hk) q hk
  exact h3 D H (h _ z0 h1)
theorem key_D (cs : Cs) (q6 q3 q0 q1 q2 q5 q4 q7 b : Nat) (v3_0 v3_1 v3_2 v0_0 v1_0 v2_0 v5_0 v4_0 v7_0 v7_1 : Nat → Nat) {A : Nat → Prop} (h : va_D A (wsL cs q6 q3 q0 q1 q2 q5 q4 q7 b v3_0 v3_1 v3_2 v0_0 v1_0 v2_0 v5_0 v4_0 v7_0 v7_1)) : va_D A (wld cs (nthN (adL q6 q3 q0 q1 q2 q5 q4 q7 b v3_0 v3_1 v3_2 v0_0 v1_0 v2_0 v5_0 v4_0 v7_0 v7_1)) M0) := by
  refine ⟨fun i j x y hi hj hxy => ?_, fun k q hk => ?_⟩
  · obtain ⟨x0, a1, a2, -⟩ := key cs q6 q3 q0 q1 q2 q5 q4 q7 b v3_0 v3_1 v3_2 v0_0 v1_0 v2_0 v5_0 v4_0 v7_0 v7_1 i (key_lt hi) x hi
    obtain ⟨y0, b1, b2, -⟩ := key cs q6 q3 q0 q1 q2 q5 q4 q7 b v3_0 v3_1 v3_2 v0_0 v1_0 v2_0 v5_0 v4_0 v7_0 v7_1 j (key_lt hj) y hj
    exact piL_inj i (key_lt hi) j (key_lt hj) (h.1 _ _ x0 y0 a1 b1 (by rw [a2, b2, hxy]))
  · obtain ⟨x0, a1, a2, -⟩ := key cs q6 q3 q0 q1 q2 q5 q4 q7 b v3_0 v3_1 v3_2 v0_0 v1_0 v2_0 v5_0 v4_0 v7_0 v7_1 k (key_lt hk) q hk
    rw [← a2]
    exact h.2 _ x0 a1
