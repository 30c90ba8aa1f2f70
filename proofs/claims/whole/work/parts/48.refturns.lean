/-! The reference: the next plan in order. -/
theorem ldN_chg {w t : Int → Int} {b v l : Int} (b0 : 0 ≤ b) : ∀ n : Nat, ldN w (up1 t b v) l n = ldN w t l n + (if b < n then (if v = l then w b else 0) - (if t b = l then w b else 0) else 0)
  | 0 => by rw [if_neg (by omega)]; rfl
  | n + 1 => by
    have ih := ldN_chg (w := w) (t := t) (v := v) (l := l) b0 n
    unfold ldN at *
    rw [sm_s, sm_s, ih]
    by_cases e : (n : Int) = b
    · rw [if_neg (show ¬ b < (n : Int) by omega), if_pos (show b < ((n + 1 : Nat) : Int) by push_cast; omega), e, up1_s]
      omega
    · rw [up1_n _ _ e]
      by_cases e2 : b < n
      · rw [if_pos e2, if_pos (show b < ((n + 1 : Nat) : Int) by push_cast; omega)]
        omega
      · rw [if_neg e2, if_neg (show ¬ b < ((n + 1 : Nat) : Int) by push_cast; omega)]
        omega
def TC (M : Mem) : Prop := (0 ≤ M 47 1 ∧ M 47 1 ≤ 4) ∧ (∀ l, M 50 l = 0 ∨ M 50 l = 1) ∧ vld (M 50) (M 47 1) (M 73) 8 ∧ (∀ l : Int, 0 ≤ l → l < 4 → M 71 l = ldN (M 72) (M 73) l 8)
def TO (M : Mem) : PV → Mem → Prop := fun r M' => (∀ r, r ≠ 71 → r ≠ 73 → M' r = M r) ∧ ((r = vI 1 ∧ TC M' ∧ rk (M 73) 8 < rk (M' 73) 8 ∧ ∀ s, vld (M 50) (M 47 1) s 8 → rk (M 73) 8 < rk s 8 → rk (M' 73) 8 ≤ rk s 8) ∨ (r = vI 0 ∧ ∀ s, vld (M 50) (M 47 1) s 8 → rk s 8 ≤ rk (M 73) 8))
theorem turn_loop {d : Nat} {M : Mem} (h : TC M) : ∀ (n : Nat) (M' : Mem) (z : PV), n ≤ 8 → TC M' → (∀ r, r ≠ 71 → r ≠ 73 → M' r = M r) → (∀ j : Int, 0 ≤ j → j < n → M' 73 j = M 73 j) → (∀ j : Int, n ≤ j → j < 8 → ∀ l : Int, 0 ≤ l → l < M 47 1 → M 50 l = 1 → M' 73 j ≤ l ∧ l ≤ M 73 j) →
    gV mX7_turns (d + 1) (TO M) 4 [vR 47, vI ((n : Int) - 1), z] [vI ((n : Int) - 1)] M'
  | 0, M', z, hn, hC, h1, h2, h3 => by
    refine gV_it rfl (by unfold rng; omega) (by omega) ?_
    repeat (refine gV_s rfl (by first | exact trivial | omega) ?_)
    refine gV_ret rfl (Or.inl rfl) ⟨h1, Or.inr ⟨rfl, fun s hs => ?_⟩⟩
    have := rk_le (s := s) (t := M 73) (b := 0) (Int.le_refl _) 8 (fun i a b => by
      have := hs i (by omega) (by omega)
      exact (h3 i (by omega) (by omega) (s i) this.1 this.2.1 this.2.2).2)
    exact this
  | n + 1, M', z, hn, hC, h1, h2, h3 => by
    obtain ⟨hL, hu, hv, hld⟩ := id h
    obtain ⟨-, -, hv', hld'⟩ := id hC
    have e47 : M' 47 = M 47 := h1 47 (by decide) (by decide)
    have e50 : M' 50 = M 50 := h1 50 (by decide) (by decide)
    have e72 : M' 72 = M 72 := h1 72 (by decide) (by decide)
    have en : (((n + 1 : Nat) : Int)) - 1 = n := by push_cast; omega
    have et : M' 73 n = M 73 n := h2 n (by omega) (by push_cast; omega)
    obtain ⟨t0, t1, t2⟩ := hv n (by omega) (by omega)
    rw [en]
    refine gV_in rfl (by unfold rng; omega) (by omega) ?_
    repeat (refine gV_s rfl (by first | exact trivial | omega) ?_)
    rw [et]
    refine gV_in rfl (by unfold rng; omega) (by omega) ?_
    repeat (refine gV_s rfl (by first | exact trivial | omega) ?_)
    rw [et]
    refine gV_cV (ok_nextUp (d := d) (M := M') (a := M 73 n + 1) (by rw [e47]; exact hL) (by rw [e50]; exact hu) (by omega) (by omega)) mX7_nextUp_ok sX7_X7_nextUp rfl rfl rfl rfl rfl rfl ?_
    rintro r M1 ⟨rfl, l, rfl, hl⟩
    unfold nuP at hl
    rw [e47, e50] at hl
    have hl4 : -6 ≤ l ∧ l ≤ 3 := by omega
    -- the bucket stands on v now
    have done : ∀ v : Int, 0 ≤ v → v < M 47 1 → M 50 v = 1 → (∀ M3 : Mem, TC M3 → (∀ r, r ≠ 71 → r ≠ 73 → M3 r = M r) → M3 73 = up1 (M1 73) n v → gV mX7_turns (d + 1) (TO M) 88 [vR 47, vI n, vI l] [] M3) → gV mX7_turns (d + 1) (TO M) 67 [vR 47, vI n, vI l] [vI v, vI n, vR 73] (mw M1 71 (M 73 n) (M1 71 (M 73 n) - M1 72 n)) := by
      intro v v0 v1 v2 kk
      refine gV_s rfl (by omega) ?_
      iterate 6 (refine gV_s rfl (by first | exact trivial | omega) ?_)
      rw [show mw (mw M1 71 (M 73 n) (M1 71 (M 73 n) - M1 72 n)) 73 n v 73 n = v by rw [mw_rs, up1_s]]
      iterate 8 (refine gV_s rfl (by first | exact trivial | omega) ?_)
      simp only [mw_rn, mw_rs, ne_eq, not_false_eq_true, Nat.reduceEqDiff, Nat.reduceLT, Nat.reduceLeDiff, true_or, or_true, forall_const]
      refine kk _ ⟨?_, ?_, ?_, fun l' a b => ?_⟩ (fun r a b => ?_) ?_
      · simp only [mw_rn, ne_eq, not_false_eq_true, Nat.reduceEqDiff, Nat.reduceLT, Nat.reduceLeDiff, true_or, or_true, forall_const]; rw [e47]; exact hL
      · simp only [mw_rn, ne_eq, not_false_eq_true, Nat.reduceEqDiff, Nat.reduceLT, Nat.reduceLeDiff, true_or, or_true, forall_const]; rw [e50]; exact hu
      · simp only [mw_rn, mw_rs, ne_eq, not_false_eq_true, Nat.reduceEqDiff, Nat.reduceLT, Nat.reduceLeDiff, true_or, or_true, forall_const]
        rw [e47, e50]
        intro j a b
        rw [up1_e]
        split
        · exact ⟨v0, v1, v2⟩
        · have := hv' j a b
          rw [e47, e50] at this
          exact this
      · simp only [mw_rn, mw_rs, ne_eq, not_false_eq_true, Nat.reduceEqDiff, Nat.reduceLT, Nat.reduceLeDiff, true_or, or_true, forall_const]
        rw [ldN_chg (by omega), if_pos (by omega), ← hld' l' a b, et]
        simp only [up1_e]
        by_cases c1 : l' = v <;> by_cases c2 : l' = M 73 n <;> by_cases c3 : v = M 73 n <;> simp_all <;> omega
      · rw [mw_rn _ _ _ a, mw_rn _ _ _ b, mw_rn _ _ _ a]; exact h1 r a b
      · simp only [mw_rn, mw_rs, ne_eq, not_false_eq_true, Nat.reduceEqDiff, Nat.reduceLT, Nat.reduceLeDiff, true_or, or_true, forall_const]
    iterate 7 (refine gV_s rfl (by first | exact trivial | omega) ?_)
    rw [et]
    iterate 12 (refine gV_s rfl (by first | exact trivial | omega) ?_)
    refine gV_i rfl (by unfold rng; omega) (fun h5 => ?_) (fun h5 => ?_)
    · have hl6 : ∀ l', M 73 n + 1 ≤ l' → l' < M 47 1 → M 50 l' ≠ 1 := by
        rcases hl with q | q
        · exact q.2
        · omega
      refine gV_s rfl trivial (gV_s rfl trivial ?_)
      refine gV_cV (ok_nextUp (d := d) (M := mw M1 71 (M 73 n) (M1 71 (M 73 n) - M1 72 n)) (a := 0) (by rw [mw_rn _ _ _ (by decide), e47]; exact hL) (by rw [mw_rn _ _ _ (by decide), e50]; exact hu) (by omega) (by omega)) mX7_nextUp_ok sX7_X7_nextUp rfl rfl rfl rfl rfl rfl ?_
      rintro r M2 ⟨rfl, u, rfl, hu0⟩
      unfold nuP at hu0
      rw [mw_rn _ _ _ (by decide), mw_rn _ _ _ (by decide), e47, e50] at hu0
      have hu1 : 0 ≤ u ∧ u < M 47 1 ∧ M 50 u = 1 ∧ ∀ l', 0 ≤ l' → l' < u → M 50 l' ≠ 1 := by
        rcases hu0 with q | q
        · exact absurd t2 (q.2 (M 73 n) t0 t1)
        · exact q
      refine done u hu1.1 hu1.2.1 hu1.2.2.1 (fun M3 k1 k2 k3 => ?_)
      repeat (refine gV_s rfl (by first | exact trivial | omega) ?_)
      refine gV_it rfl (by unfold rng; omega) h5 ?_
      repeat (refine gV_s rfl (by first | exact trivial | omega) ?_)
      refine turn_loop h n M3 _ (by omega) k1 k2 (fun j a b => ?_) (fun j a b l' a1 a2 a3 => ?_)
      · rw [k3, up1_n _ _ (by omega)]; exact h2 j a (by push_cast; omega)
      · rw [k3, up1_e]
        split
        · rename_i e
          rw [e]
          refine ⟨?_, ?_⟩
          · by_cases c : u ≤ l'
            · exact c
            · exact absurd a3 (hu1.2.2.2 l' a1 (by omega))
          · by_cases c : l' ≤ M 73 n
            · exact c
            · exact absurd a3 (hl6 l' (by omega) a2)
        · exact h3 j (by push_cast; omega) b l' a1 a2 a3
    · have hl7 : M 73 n + 1 ≤ l ∧ l < M 47 1 ∧ M 50 l = 1 ∧ ∀ l', M 73 n + 1 ≤ l' → l' < l → M 50 l' ≠ 1 := by
        rcases hl with q | q
        · omega
        · exact q
      refine gV_s rfl trivial (gV_s rfl trivial ?_)
      refine done l (by omega) hl7.2.1 hl7.2.2.1 (fun M3 k1 k2 k3 => ?_)
      repeat (refine gV_s rfl (by first | exact trivial | omega) ?_)
      refine gV_in rfl (by unfold rng; omega) h5 ?_
      repeat (refine gV_s rfl (by first | exact trivial | omega) ?_)
      have dt : dig (M 73) := vld_dig hL.2 hv
      have d3 : dig (M3 73) := by
        have := k1.2.2.1
        have e1 : M3 47 = M 47 := k2 47 (by decide) (by decide)
        exact vld_dig (by rw [e1]; exact hL.2) this
      have g3 : ∀ j : Int, 0 ≤ j → j < n → M3 73 j = M 73 j := fun j a b => by rw [k3, up1_n _ _ (by omega)]; exact h2 j a (by push_cast; omega)
      have g3n : M3 73 n = l := by rw [k3, up1_s]
      have en3 : rk (M3 73) n = rk (M 73) n := rk_cong (fun j a b => g3 j a b)
      refine gV_ret rfl (Or.inr rfl) ⟨k2, Or.inl ⟨rfl, k1, ?_, fun s hs hlt => ?_⟩⟩
      · have lt : rk (M 73) (n + 1) < rk (M3 73) (n + 1) := by
          simp only [rk]
          rw [en3, g3n]
          omega
        have := rk_lt dt d3 lt (8 - (n + 1)) (by omega)
        rw [show n + 1 + (8 - (n + 1)) = 8 by omega] at this
        exact this
      · have ds : dig s := vld_dig hL.2 hs
        have q1 : rk (M 73) (n + 1) < rk s (n + 1) := by
          by_cases c : rk (M 73) (n + 1) < rk s (n + 1)
          · exact c
          · have := rk_le (s := s) (t := M 73) (b := n + 1) (by omega) (8 - (n + 1)) (fun i a b => by
              have w := hs i (by omega) (by omega)
              exact (h3 i (by push_cast at a ⊢; omega) (by omega) (s i) w.1 w.2.1 w.2.2).2)
            rw [show n + 1 + (8 - (n + 1)) = 8 by omega] at this
            omega
        have q2 : rk (M3 73) (n + 1) ≤ rk s (n + 1) := by
          have s0 := hs n (by omega) (by omega)
          simp only [rk] at q1 ⊢
          rw [en3, g3n]
          by_cases c : rk (M 73) n < rk s n
          · omega
          · have c2 : rk (M 73) n = rk s n := by
              have := ds n (by omega) (by omega)
              omega
            have c3 : l ≤ s n := by
              by_cases c4 : l ≤ s n
              · exact c4
              · exact absurd s0.2.2 (hl7.2.2.2 (s n) (by omega) (by omega))
            omega
        have := rk_le (s := M3 73) (t := s) (b := n + 1) q2 (8 - (n + 1)) (fun i a b => by
          have w := hs i (by omega) (by omega)
          rw [k3, up1_n _ _ (by push_cast at a; omega)]
          exact (h3 i (by push_cast at a ⊢; omega) (by omega) (s i) w.1 w.2.1 w.2.2).1)
        rw [show n + 1 + (8 - (n + 1)) = 8 by omega] at this
        exact this
theorem ok_turns {d : Nat} {M : Mem} (h : TC M) : gOk mX7_turns (d + 1) [vR 47] M (TO M) := by
  refine gOk_of mX7_turns_ok (by simp) (Nat.le_of_ble_eq_true rfl) ?_
  repeat (refine gV_s rfl (by first | exact trivial | omega) ?_)
  exact turn_loop h 8 M none (by omega) h (fun _ _ _ => rfl) (fun _ _ _ => rfl) (fun j a b => by omega)
