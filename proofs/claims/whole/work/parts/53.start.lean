/-! The start. -/
def M0 : Mem := fun r i => if r = 19 ∨ r = 20 ∨ r = 52 ∨ r = 53 then -6 else if (r = 3 ∧ i = 1) ∨ (r = 47 ∧ i = 13) then 1 else 0
theorem M0_z {r : Nat} (h1 : r ≠ 19) (h2 : r ≠ 20) (h3 : r ≠ 52) (h4 : r ≠ 53) (h5 : r ≠ 3) (h6 : r ≠ 47) : M0 r = fun _ => 0 := by
  funext i
  unfold M0
  rw [if_neg (by omega), if_neg (by omega)]
theorem M0_6 {r : Nat} (h : r = 19 ∨ r = 20 ∨ r = 52 ∨ r = 53) : M0 r = fun _ => -6 := by
  funext i
  unfold M0
  rw [if_pos h]
theorem M0_3 (i : Int) : M0 3 i = if i = 1 then 1 else 0 := by
  unfold M0
  by_cases e : i = 1
  · rw [if_neg (by omega), if_pos (by omega), if_pos e]
  · rw [if_neg (by omega), if_neg (by omega), if_neg e]
theorem M0_47 (i : Int) : M0 47 i = if i = 13 then 1 else 0 := by
  unfold M0
  by_cases e : i = 13
  · rw [if_neg (by omega), if_pos (by omega), if_pos e]
  · rw [if_neg (by omega), if_neg (by omega), if_neg e]
theorem NI_0 : NI M0 := by
  have z : ∀ r, r ≠ 19 → r ≠ 20 → r ≠ 52 → r ≠ 53 → r ≠ 3 → r ≠ 47 → M0 r = fun _ => 0 := fun r a b c d e f => M0_z a b c d e f
  have e19 : M0 19 = fun _ => -6 := M0_6 (by omega)
  have e20 : M0 20 = fun _ => -6 := M0_6 (by omega)
  have e30 : M0 3 0 = 0 := by rw [M0_3]; rfl
  have e31 : M0 3 1 = 1 := by rw [M0_3]; rfl
  have e32 : M0 3 2 = 0 := by rw [M0_3]; rfl
  unfold NI AI Ja
  simp only [z, e19, e20, e30, e31, e32, ne_eq, not_false_eq_true, Nat.reduceEqDiff, Nat.reduceLT, Nat.reduceLeDiff, true_or, or_true, forall_const]
  refine ⟨by first | omega | (dsimp only at *; omega) | simp, ⟨fun l a b => by first | omega | (dsimp only at *; omega) | simp, fun l => Or.inl rfl, fun l => by first | omega | (dsimp only at *; omega) | simp⟩, fun b => ⟨Or.inl rfl, Or.inl rfl, Or.inl rfl, fun q => by first | omega | (dsimp only at *; omega) | simp, fun _ => ⟨rfl, rfl⟩⟩, fun _ q => by obtain ⟨l, hl⟩ := q; simp at hl, fun i a b => by first | omega | (dsimp only at *; omega) | simp, fun f => by first | omega | (dsimp only at *; omega) | simp, fun i => by first | omega | (dsimp only at *; omega) | simp, fun s a b => rfl, fun b a c => rfl, fun f a b => ⟨rfl, rfl, rfl⟩, fun l a b => ⟨rfl, rfl, rfl⟩, fun l a b => ?_, fun i a b => by first | omega | (dsimp only at *; omega) | simp, ⟨fun k a b => by first | omega | (dsimp only at *; omega) | simp, fun f a b => by first | omega | (dsimp only at *; omega) | simp, fun f => by first | omega | (dsimp only at *; omega) | simp, fun f _ => rfl⟩⟩
  exact ⟨by first | omega | (dsimp only at *; omega) | simp, fun p p0 p1 => by first | omega | (dsimp only at *; omega) | simp, fun p p' a b c => by first | omega | (dsimp only at *; omega) | simp, fun p p' a b c => by first | omega | (dsimp only at *; omega) | simp, fun _ => rfl⟩
theorem RM_0 : RM M0 M0 0 := by
  have z : ∀ r, r ≠ 19 → r ≠ 20 → r ≠ 52 → r ≠ 53 → r ≠ 3 → r ≠ 47 → M0 r = fun _ => 0 := fun r a b c d e f => M0_z a b c d e f
  have e19 : M0 19 = fun _ => -6 := M0_6 (by omega)
  have e20 : M0 20 = fun _ => -6 := M0_6 (by omega)
  have e52 : M0 52 = fun _ => -6 := M0_6 (by omega)
  have e53 : M0 53 = fun _ => -6 := M0_6 (by omega)
  refine ⟨?_, ?_, ?_⟩
  · unfold Rr
    simp only [z, e19, e20, e52, e53, ne_eq, not_false_eq_true, Nat.reduceEqDiff, Nat.reduceLT, Nat.reduceLeDiff, true_or, or_true, forall_const, and_self]
  · unfold Rs
    simp only [z, M0_3, M0_47, ne_eq, not_false_eq_true, Nat.reduceEqDiff, Nat.reduceLT, Nat.reduceLeDiff, true_or, or_true, forall_const]
    decide
  · simp only [z, M0_47, ne_eq, not_false_eq_true, Nat.reduceEqDiff, Nat.reduceLT, Nat.reduceLeDiff, true_or, or_true, forall_const]
    refine ⟨by first | decide | simp, fun i => by first | omega | (dsimp only at *; omega) | simp, fun k k0 k4 => ⟨fun p a b => by first | omega | (dsimp only at *; omega) | simp, fun p p' a b c => by first | omega | (dsimp only at *; omega) | simp, fun p a b => by first | omega | (dsimp only at *; omega) | simp, fun p p' a b c => by first | omega | (dsimp only at *; omega) | simp⟩⟩
theorem INV_0 : INV M0 0 := by
  refine ⟨NI_0, RM_B RM_0 (by omega), fun l a b => ?_, ?_⟩
  · rw [M0_z (by decide) (by decide) (by decide) (by decide) (by decide) (by decide)]
  · rw [M0_z (by decide) (by decide) (by decide) (by decide) (by decide) (by decide)]; decide
