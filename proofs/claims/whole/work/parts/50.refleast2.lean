/-! The reference: least, from its start. -/
theorem ldN_new {w t : Int → Int} {j : Nat} {r u l : Int} : ldN (up1 w j r) (up1 t j u) l (j + 1) = ldN w t l j + (if u = l then r else 0) := by
  unfold ldN
  rw [sm_s, sm_cong (g := fun b => if t b = l then w b else 0) (fun b a c => by rw [up1_n _ _ (by omega), up1_n _ _ (by omega)]), up1_s, up1_s]
theorem z_loop {d : Nat} {M : Mem} {k : Int} {P : PV → Mem → Prop} (kk : ∀ (M' : Mem) (z : Int), (∀ r, r ≠ 71 → M' r = M r) → (∀ l : Int, 0 ≤ l → l < 4 → M' 71 l = 0) → gV mX7_least d P 44 [vR 47, vI k, vI z, none, none, none] [] M') :
    ∀ (n j : Nat) (M' : Mem), j + n = 4 → (∀ r, r ≠ 71 → M' r = M r) → (∀ l : Int, 0 ≤ l → l < j → M' 71 l = 0) → gV mX7_least d P 28 [vR 47, vI k, vI j, none, none, none] [vI 4, vI j] M'
  | 0, j, M', hj, h1, h2 => by
    have e : j = 4 := by omega
    subst e
    exact gV_it rfl (by unfold rng; omega) (by omega) (kk M' _ h1 (fun l a b => h2 l a (by omega)))
  | n + 1, j, M', hj, h1, h2 => by
    refine gV_in rfl (by unfold rng; omega) (by omega) ?_
    repeat (refine gV_s rfl (by first | exact trivial | omega) ?_)
    refine z_loop kk n (j + 1) _ (by omega) (fun r a => by rw [mw_rn _ _ _ a]; exact h1 r a) (fun l a b => ?_)
    rw [mw_rs, up1_e]
    split
    · rfl
    · exact h2 l a (by push_cast at b; omega)
theorem b_loop {d : Nat} {S M : Mem} {k B : Int} {P : PV → Mem → Prop} (h : NI S) (hu : anyUp S) (hR : RM S M B) (hB : B ≤ 2000000000)
    (kk : ∀ (M' : Mem) (z : Int), (∀ r, r ≠ 71 → r ≠ 72 → r ≠ 73 → M' r = M r) → (∀ i : Int, 0 ≤ i → i < 8 → M' 72 i = rates S i ∧ (0 ≤ M' 73 i ∧ M' 73 i < S 1 0 ∧ S 9 (M' 73 i) = 1) ∧ ∀ l, 0 ≤ l → l < M' 73 i → S 9 l ≠ 1) → (∀ l : Int, 0 ≤ l → l < 4 → M' 71 l = ldN (M' 72) (M' 73) l 8) → gV mX7_least (d + 2) P 123 [vR 47, vI k, vI z, none, none, none] [] M') :
    ∀ (n j : Nat) (M' : Mem), j + n = 8 → (∀ r, r ≠ 71 → r ≠ 72 → r ≠ 73 → M' r = M r) → (∀ i : Int, 0 ≤ i → i < j → M' 72 i = rates S i ∧ (0 ≤ M' 73 i ∧ M' 73 i < S 1 0 ∧ S 9 (M' 73 i) = 1) ∧ ∀ l, 0 ≤ l → l < M' 73 i → S 9 l ≠ 1) → (∀ l : Int, 0 ≤ l → l < 4 → M' 71 l = ldN (M' 72) (M' 73) l j) → gV mX7_least (d + 2) P 49 [vR 47, vI k, vI j, none, none, none] [vI 8, vI j] M' := by
  have hL := h.1.1
  intro n
  induction n with
  | zero =>
    intro j M' hj h1 h2 h3
    have e : j = 8 := by omega
    subst e
    exact gV_it rfl (by unfold rng; omega) (by omega) (kk M' _ h1 (fun i a b => h2 i a (by omega)) h3)
  | succ n ih =>
    intro j M' hj h1 h2 h3
    have hR' : RM S M' B := RM_M hR (fun r a b => h1 r (by omega) (by omega) (by omega))
    obtain ⟨o0, o1, o2⟩ := on_vld h hu j (by omega) (by omega)
    have hu1 : ∀ l, S 9 l = 0 ∨ S 9 l = 1 := fun l => by have := h.2.1.2.1 l; omega
    refine gV_in rfl (by unfold rng; omega) (by omega) ?_
    repeat (refine gV_s rfl (by first | exact trivial | omega) ?_)
    refine gV_cV (ok_mRates (d := d) (P := fun r M2 => r = vI (rates S j) ∧ M2 = M') (b := j) h hR' hB (by unfold rng; omega) ⟨rfl, rfl⟩) mX7_rates_ok sX7_X7_rates rfl rfl rfl rfl rfl rfl ?_
    rintro r M2 ⟨rfl, rfl⟩
    have hR2 : RM S (mw M2 72 j (rates S j)) B := RM_M hR' (fun r a b => mw_rn _ _ _ (by omega))
    repeat (refine gV_s rfl (by first | exact trivial | omega) ?_)
    rw [show mw M2 72 j (rates S j) 52 j = S 19 j by rw [hR2.e52]]
    refine gV_in rfl (by unfold rng; omega) (by omega) ?_
    repeat (refine gV_s rfl (by first | exact trivial | omega) ?_)
    refine gV_cV (ok_nextUp (d := d + 1) (M := mw M2 72 j (rates S j)) (a := 0) (by rw [hR2.s1]; exact hL) (by rw [hR2.e50]; exact hu1) (by omega) (by omega)) mX7_nextUp_ok sX7_X7_nextUp rfl rfl rfl rfl rfl rfl ?_
    rintro r M3 ⟨rfl, u, rfl, hu0⟩
    unfold nuP at hu0
    rw [hR2.s1, hR2.e50] at hu0
    have hv : 0 ≤ u ∧ u < S 1 0 ∧ S 9 u = 1 ∧ ∀ l', 0 ≤ l' → l' < u → S 9 l' ≠ 1 := by
      rcases hu0 with q | q
      · exact absurd o2 (q.2 (S 19 j) o0 o1)
      · exact q
    refine gV_s rfl trivial (gV_s rfl (by omega) ?_)
    iterate 4 (refine gV_s rfl (by first | exact trivial | omega) ?_)
    rw [show mw (mw M2 72 j (rates S j)) 73 j u 73 j = u by rw [mw_rs, up1_s]]
    refine gV_in rfl (by unfold rng; omega) (by omega) ?_
    iterate 6 (refine gV_s rfl (by first | exact trivial | omega) ?_)
    rw [show mw (mw M2 72 j (rates S j)) 73 j u 73 j = u by rw [mw_rs, up1_s]]
    repeat (refine gV_s rfl (by first | exact trivial | omega) ?_)
    refine ih (j + 1) _ (by omega) (fun r a b c => ?_) (fun i a b => ?_) (fun l a b => ?_)
    · rw [mw_rn _ _ _ a, mw_rn _ _ _ c, mw_rn _ _ _ b]; exact h1 r a b c
    · simp only [mw_rn, mw_rs, ne_eq, not_false_eq_true, Nat.reduceEqDiff, Nat.reduceLT, Nat.reduceLeDiff, true_or, or_true, forall_const]
      rw [up1_e, up1_e]
      by_cases e : i = j
      · rw [if_pos e, if_pos e, e]
        exact ⟨rfl, ⟨hv.1, hv.2.1, hv.2.2.1⟩, hv.2.2.2⟩
      · rw [if_neg e, if_neg e]
        exact h2 i a (by push_cast at b; omega)
    · simp only [mw_rn, mw_rs, ne_eq, not_false_eq_true, Nat.reduceEqDiff, Nat.reduceLT, Nat.reduceLeDiff, true_or, or_true, forall_const]
      rw [ldN_new, ← h3 l a b, up1_s, up1_e]
      by_cases e : l = u
      · rw [if_pos e, if_pos e.symm, e]
      · rw [if_neg e, if_neg (fun q => e q.symm)]; omega
theorem ok_mLeast {d : Nat} {S M : Mem} {B k : Int} (h : NI S) (hk : rng k) (hR : RM S M B) (hB : B ≤ 2000000000) : gOk mX7_least (d + 2) [vR 47, vI k] M (LsP S M k) := by
  have hMM := MR_of h hR hB
  have hL := h.1.1
  have keep : ∀ v : Int, lsA S k v (S 6 0) (S 43) → LsP S M k (vI v) M := fun v hv => ⟨fun _ _ _ => rfl, fun _ _ => rfl, v, rfl, by rw [hR.s31, hR.e70]; exact hv⟩
  refine gOk_of mX7_least_ok (by simp) (Nat.le_of_ble_eq_true rfl) ?_
  repeat (refine gV_s rfl (by first | exact trivial | omega) ?_)
  refine gV_cS (ok_in (d := d + 1) (M := M) hk (by unfold rng; omega) (by unfold rng; omega)) mX7_in_ok sX7_X7_in rfl rfl rfl rfl ?_
  rintro r M' ⟨rfl, ⟨h1, rfl⟩ | ⟨h1, rfl⟩⟩
  · refine gV_in rfl (by unfold rng; omega) (by omega) ?_
    repeat (refine gV_s rfl (by first | exact trivial | omega) ?_)
    refine gV_cV (ok_noneUp (d := d + 1) (M := M') hMM) mX7_noneUp_ok sX7_X7_noneUp rfl rfl rfl rfl rfl rfl ?_
    rw [hR.s1, hR.e50]
    rintro r M2 ⟨rfl, ⟨h2, rfl⟩ | ⟨h2, rfl⟩⟩
    · refine gV_in rfl (by unfold rng; omega) (by omega) ?_
      repeat (refine gV_s rfl (by first | exact trivial | omega) ?_)
      refine gV_ret rfl trivial (keep (-3) (Or.inr (Or.inl ⟨h1, fun ⟨l, a, b, c⟩ => ?_, rfl, rfl, rfl⟩)))
      have := h2 l a b
      omega
    · have hu : anyUp S := Classical.byContradiction (fun q => h2 (fun l a b => by
        rcases h.2.1.2.1 l with w | w
        · exact w
        · exact absurd ⟨l, a, b, w.1⟩ q))
      refine gV_it rfl (by unfold rng; omega) rfl ?_
      repeat (refine gV_s rfl (by first | exact trivial | omega) ?_)
      refine z_loop (d := d + 2) (M := M2) (k := k) (P := LsP S M2 k) (fun M3 z a1 a2 => ?_) 4 0 M2 rfl (fun _ _ => rfl) (fun l a b => by omega)
      have hR3 : RM S M3 B := RM_M hR (fun r a b => a1 r (by omega))
      repeat (refine gV_s rfl (by first | exact trivial | omega) ?_)
      refine b_loop (d := d) (S := S) (M := M3) (k := k) (B := B) (P := LsP S M2 k) h hu hR3 hB (fun M4 z b1 b2 b3 => ?_) 8 0 M3 rfl (fun _ _ _ _ => rfl) (fun i a b => by omega) (fun l a b => by rw [a2 l a b]; rfl)
      have hR4 : RM S M4 B := RM_M hR3 (fun r a b => b1 r (by omega) (by omega) (by omega))
      have hr : ∀ r, r < 71 → M4 r = M2 r := fun r a => by rw [b1 r (by omega) (by omega) (by omega), a1 r (by omega)]
      have hv : vld (S 9) (S 1 0) (M4 73) 8 := fun b b0 b8 => (b2 b b0 (by omega)).2.1
      repeat (refine gV_s rfl (by first | exact trivial | omega) ?_)
      refine least_main (d := d) (S := S) (M := M2) h hu h1 65536 M4 (-6) none none (by have := rk_8 (vld_dig hL.2 hv); omega) ⟨hR4.e48, hR4.e50, hR4.e52, hR4.s1, fun i a b => (b2 i a b).1, fun r a b => hr r (by omega), fun i a => by rw [hr 47 (by decide)]⟩ ⟨by rw [hR4.s1]; exact hL, by rw [hR4.e50]; exact fun l => by have := h.2.1.2.1 l; omega, by rw [hR4.e50, hR4.s1]; exact hv, b3⟩ (Or.inl rfl) ?_
      rw [if_pos (by decide), hR4.s31, hR4.e70]
      refine Imp_no (fun s hs _ => ?_)
      have := rk_le (s := M4 73) (t := s) (b := 0) (Int.le_refl _) 8 (fun i a b => by
        have w := hs.1 i (by omega) (by omega)
        have w2 := (b2 i (by omega) (by omega)).2.2 (s i) w.1
        by_cases c : M4 73 i ≤ s i
        · exact c
        · exact absurd w.2.2 (w2 (by omega)))
      have h9 : rk (M4 73) 8 ≤ rk s 8 := this
      have := hs.2
      omega
  · refine gV_it rfl (by unfold rng; omega) rfl ?_
    repeat (refine gV_s rfl (by first | exact trivial | omega) ?_)
    exact gV_ret rfl trivial (keep (-2) (Or.inl ⟨h1, rfl, rfl, rfl⟩))
