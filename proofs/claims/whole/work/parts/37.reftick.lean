/-! The reference: a tick. -/
theorem RM_sc {S M : Mem} {B v : Int} (hR : RM S M B) {rs : Nat} {i j : Int} (hp : (rs = 5 ∧ i = 0 ∧ j = 0) ∨ (rs = 5 ∧ i = 1 ∧ j = 15) ∨ (rs = 1 ∧ i = 0 ∧ j = 1) ∨ (rs = 3 ∧ i = 0 ∧ j = 10) ∨ (rs = 3 ∧ i = 1 ∧ j = 13) ∨ (rs = 3 ∧ i = 2 ∧ j = 14) ∨ (rs = 6 ∧ i = 0 ∧ j = 31) ∨ (rs = 4 ∧ i = 0 ∧ j = 16)) : RM (mw S rs i v) (mw M 47 j v) B := by
  obtain ⟨⟨e48, e49, e50, e51, e52, e53, e54, e55, e56, e57, e58, e59, e60, e61, e62, e63, e64, e65, e66, e69, e70⟩, ⟨t1, t2, t3, t4, t5, t6, t7, t8, t9⟩, hT⟩ := hR
  rcases hp with ⟨rfl, rfl, rfl⟩ | ⟨rfl, rfl, rfl⟩ | ⟨rfl, rfl, rfl⟩ | ⟨rfl, rfl, rfl⟩ | ⟨rfl, rfl, rfl⟩ | ⟨rfl, rfl, rfl⟩ | ⟨rfl, rfl, rfl⟩ | ⟨rfl, rfl, rfl⟩
  all_goals
    refine ⟨?_, ?_, ?_⟩
    · unfold Rr
      simp only [mw_rn, ne_eq, not_false_eq_true, Nat.reduceEqDiff, Nat.reduceLT, Nat.reduceLeDiff, true_or, or_true, forall_const]
      simp only [e48, e49, e50, e51, e52, e53, e54, e55, e56, e57, e58, e59, e60, e61, e62, e63, e64, e65, e66, e69, e70, and_self]
    · unfold Rs
      simp only [mw_rs, mw_rn, ne_eq, not_false_eq_true, Nat.reduceEqDiff, Nat.reduceLT, Nat.reduceLeDiff, true_or, or_true, forall_const, up1_e]
      simp [t1, t2, t3, t4, t5, t6, t7, t8, t9]
    · simp only [mw_rs, mw_rn, ne_eq, not_false_eq_true, Nat.reduceEqDiff, Nat.reduceLT, Nat.reduceLeDiff, true_or, or_true, forall_const]
      rw [up1_n _ _ (by decide)]
      exact Rt_rw hT (fun k p k0 k4 => mwq (by omega) _ _ k0 k4)
theorem fst_q {S M : Mem} {lo : Int → Int} {x B l r : Int} (h : AI S lo x) (hR : RM S M B) (l0 : 0 ≤ l) (l4 : l < 4) (hf : fstQ M l (M 47 16) r) : (S 17 l ≤ S 16 l ∧ r = -6) ∨ (S 16 l < S 17 l ∧ r = qr S l (S 16 l) ∧ 0 ≤ r ∧ r < S 4 0) := by
  have hq := h.2.2.2.2.2.2.2.2.2.2.2.1 l l0 l4
  have e16 := hR.s16
  have hfst : S 16 l < S 17 l → isQ M l (qr S l (S 16 l)) ∧ 0 ≤ qr S l (S 16 l) ∧ qr S l (S 16 l) < S 4 0 := fun hlt => by
    obtain ⟨g1, -, -, g4⟩ := hq.2.1 (S 16 l) (by omega) hlt
    refine ⟨⟨?_, ?_⟩, g1.1, g1.2.1⟩
    · rw [hR.e61]; exact g4 (Int.le_refl _)
    · rw [hR.e62]; exact g1.2.2
  rcases hf with ⟨a1, a2⟩ | ⟨a1, a2, a3, a4⟩
  · left
    refine ⟨?_, a1⟩
    by_cases c : S 17 l ≤ S 16 l
    · exact c
    · obtain ⟨b1, b2, b3⟩ := hfst (by omega)
      exact absurd b1 (a2 _ b2 (by omega))
  · right
    obtain ⟨c1, c2⟩ := a3
    rw [hR.e61] at c1
    rw [hR.e62] at c2
    obtain ⟨d1, d2⟩ := first_q h hR l0 l4 r a1 (by omega) c1 c2
    obtain ⟨b1, b2, b3⟩ := hfst d1
    refine ⟨d1, ?_, a1, by omega⟩
    rcases d2 with d2 | d2
    · exact d2
    · have := a4 _ b2 (by omega) b1
      omega
theorem fst_a {S M : Mem} {lo : Int → Int} {x B l r : Int} (h : AI S lo x) (hR : RM S M B) (l0 : 0 ≤ l) (l4 : l < 4) (hlo : lo l = S 5 0 - 1) (hf : fstA M l (M 47 16) r) : (¬ (S 15 l < S 16 l ∧ S 38 (qr S l (S 15 l)) = S 5 0) ∧ r = -6) ∨ ((S 15 l < S 16 l ∧ S 38 (qr S l (S 15 l)) = S 5 0) ∧ r = qr S l (S 15 l) ∧ 0 ≤ r ∧ r < S 4 0 ∧ S 34 r = 2) := by
  have hq := h.2.2.2.2.2.2.2.2.2.2.2.1 l l0 l4
  have e16 := hR.s16
  have hfst : (S 15 l < S 16 l ∧ S 38 (qr S l (S 15 l)) = S 5 0) → isA M l (qr S l (S 15 l)) ∧ 0 ≤ qr S l (S 15 l) ∧ qr S l (S 15 l) < S 4 0 := fun hlt => by
    obtain ⟨g1, -, g3, -⟩ := hq.2.1 (S 15 l) (by omega) (by omega)
    refine ⟨⟨?_, ?_, ?_⟩, g1.1, g1.2.1⟩
    · rw [hR.e61]; exact (g3 (Int.le_refl _) hlt.1).1
    · rw [hR.e62]; exact g1.2.2
    · rw [hR.e65, hR.s0]; exact hlt.2
  rcases hf with ⟨a1, a2⟩ | ⟨a1, a2, a3, a4⟩
  · left
    refine ⟨fun c => ?_, a1⟩
    obtain ⟨b1, b2, b3⟩ := hfst c
    exact absurd b1 (a2 _ b2 (by omega))
  · right
    obtain ⟨c1, c2, c3⟩ := a3
    rw [hR.e61] at c1
    rw [hR.e62] at c2
    rw [hR.e65, hR.s0] at c3
    obtain ⟨d1, d2⟩ := first_a h hR l0 l4 hlo r a1 (by omega) c1 c2 c3
    obtain ⟨b1, b2, b3⟩ := hfst d1
    refine ⟨d1, ?_, a1, by omega, c1⟩
    rcases d2 with d2 | d2
    · exact d2
    · have := a4 _ b2 (by omega) b1
      omega
theorem lv_in {d : Nat} {T M0 : Mem} {lo : Int → Int} {x B l : Int} {P : PV → Mem → Prop} (h : AI T lo x) (hu : T 9 l = 1) (hlo : lo l < T 5 0) (hB : B + 8 ≤ 2000000000)
    (kk : ∀ (M' : Mem) (r j : Int), RM (aLvK T l (lvN T l)) M' (B + 8) → Fr M0 M' → gV mX7_tick1 (d + 3) P 127 [vR 47, vI l, vI r, vI j] [] M') :
    ∀ (n j : Nat) (M : Mem) (r : Int), j + n = lvN T l → RM (aLvK T l j) M (B + j) → Fr M0 M → fstQ M l (M 47 16) r → gV mX7_tick1 (d + 3) P 35 [vR 47, vI l, vI r, vI j] [vI (T 7 l), vI j] M := by
  obtain ⟨l0, lL, l4⟩ := AI_up h hu
  have hsp := h.2.1.2.2 l
  have h4 := h.1.2.2.1
  have hN := lvN_le h l0 l4
  have hN2 : ((lvN T l : Nat) : Int) = T 7 l ∨ ((lvN T l : Nat) : Int) = T 17 l - T 16 l := by unfold lvN; have := AI_ord h l l0 l4; split <;> omega
  have hN3 : ((lvN T l : Nat) : Int) ≤ T 7 l := by unfold lvN; have := AI_ord h l l0 l4; split <;> omega
  intro n
  induction n with
  | zero =>
    intro j M r hj hR hF hf
    have e : j = lvN T l := by omega
    subst e
    have hA := AI_lvK h hu (by omega) (lvN T l) hN
    have h1 := fst_q hA hR l0 l4 hf
    rw [aLvK_16, up1_s, aLvK_o T l (by decide) (by decide) (by decide) (by decide) (by decide) (by decide), aLvK_o T l (by decide) (by decide) (by decide) (by decide) (by decide) (by decide)] at h1
    have e50 : M 50 l = 1 := by rw [hR.e50, aLvK_o T l (by decide) (by decide) (by decide) (by decide) (by decide) (by decide)]; exact hu
    have fin := fun r j => kk M r j (RM_B hR (by omega)) hF
    refine gV_i rfl (by unfold rng; omega) (fun h2 => fin _ _) (fun h2 => ?_)
    have hr : r = -6 := by
      rcases h1 with q | q
      · exact q.2
      · omega
    subst hr
    repeat (refine gV_s rfl (by first | exact trivial | omega) ?_)
    rw [e50]
    refine gV_in rfl (by unfold rng; omega) (by omega) ?_
    repeat (refine gV_s rfl (by first | exact trivial | omega) ?_)
    exact gV_it rfl (by unfold rng; omega) (by omega) (fin _ _)
  | succ n ih =>
    intro j M r hj hR hF hf
    have hA := AI_lvK h hu (by omega) j (by omega)
    have h1 := fst_q hA hR l0 l4 hf
    have eo : ∀ r, r ≠ 37 → r ≠ 38 → r ≠ 34 → r ≠ 41 → r ≠ 16 → r ≠ 18 → aLvK T l j r = T r := fun r a1 a2 a3 a4 a5 a6 => aLvK_o T l a1 a2 a3 a4 a5 a6 j
    have eq16 : aLvK T l j 16 l = T 16 l + j := by rw [aLvK_16, up1_s]
    have e17 : aLvK T l j 17 = T 17 := eo 17 (by decide) (by decide) (by decide) (by decide) (by decide) (by decide)
    have e4 : aLvK T l j 4 = T 4 := eo 4 (by decide) (by decide) (by decide) (by decide) (by decide) (by decide)
    have e9 : aLvK T l j 9 = T 9 := eo 9 (by decide) (by decide) (by decide) (by decide) (by decide) (by decide)
    have e7 : aLvK T l j 7 = T 7 := eo 7 (by decide) (by decide) (by decide) (by decide) (by decide) (by decide)
    have e50 : M 50 l = 1 := by rw [hR.e50, e9]; exact hu
    have hlt : aLvK T l j 16 l < aLvK T l j 17 l := by rw [eq16, e17]; omega
    obtain ⟨b1, b2, b3, b4⟩ : aLvK T l j 16 l < aLvK T l j 17 l ∧ r = qr (aLvK T l j) l (aLvK T l j 16 l) ∧ 0 ≤ r ∧ r < aLvK T l j 4 0 := by
      rcases h1 with q | q
      · omega
      · exact q
    rw [e4] at b4
    have hR2 := RM_leave1 hA hR (by rw [e9]; exact hu) hlt
    rw [← b2] at hR2
    have hA2 := AI_lvK h hu (by omega) (j + 1) (by push_cast; omega)
    have hM2 := MR_of hA2 hR2 (by omega)
    have hMM := MR_of hA hR (by omega)
    have hst := hMM.2.2.2.2.2.2.2.2.2.2.2.2.2.2
    refine gV_in rfl (by unfold rng; omega) (by omega) ?_
    repeat (refine gV_s rfl (by first | exact trivial | omega) ?_)
    rw [e50]
    refine gV_in rfl (by unfold rng; omega) (by omega) ?_
    repeat (refine gV_s rfl (by first | exact trivial | omega) ?_)
    refine gV_in rfl (by unfold rng; omega) (by omega) ?_
    repeat (refine gV_s rfl (by first | exact trivial | omega) ?_)
    refine gV_cV (ok_firstQueued (d := d + 2) (M := mLeave1 M r l) (l := l) hM2 (by unfold rng; omega)) mX7_firstQueued_ok sX7_X7_firstQueued rfl rfl rfl rfl rfl rfl ?_
    rintro v M' ⟨rfl, r', rfl, hf'⟩
    have e48 : mLeave1 M r l 48 l = T 7 l := by rw [hR2.e48, aLeave1_o _ _ (by decide) (by decide) (by decide) (by decide) (by decide) (by decide), e7]
    repeat (refine gV_s rfl (by first | exact trivial | omega) ?_)
    rw [e48]
    refine ih (j + 1) _ r' (by omega) ?_ ?_ hf'
    · rw [show B + ((j + 1 : Nat) : Int) = B + j + 1 by push_cast; omega]
      exact hR2
    · exact Fr.w (Fr.w (Fr.w (Fr.w (Fr.w (Fr.w hF (by decide)) (by decide)) (by decide)) (by decide)) (by decide)) (by decide)
theorem lv_out {d : Nat} {S M0 : Mem} {lo : Int → Int} {x B : Int} {P : PV → Mem → Prop} (h : AI S lo x) (hlo : ∀ l, lo l < S 5 0) (hB : B + 32 ≤ 2000000000)
    (kk : ∀ (M' : Mem) (z1 : Int) (z2 z3 : PV), RM (aLvs S (S 1 0).toNat) M' (B + 32) → Fr M0 M' → gV mX7_tick1 (d + 3) P 133 [vR 47, vI z1, z2, z3] [] M') :
    ∀ (n k : Nat) (M : Mem) (z2 z3 : PV), (k : Int) + n = S 1 0 → RM (aLvs S k) M (B + 8 * k) → Fr M0 M → gV mX7_tick1 (d + 3) P 17 [vR 47, vI k, z2, z3] [vI (S 1 0), vI k] M := by
  have hL := h.1.1
  intro n
  induction n with
  | zero =>
    intro k M z2 z3 hk hR hF
    have e : k = (S 1 0).toNat := by omega
    subst e
    exact gV_it rfl (by unfold rng; omega) (by omega) (kk M _ _ _ (RM_B hR (by omega)) hF)
  | succ n ih =>
    intro k M z2 z3 hk hR hF
    have hA := AI_lvs h hlo k
    have eo : ∀ r, r ≠ 37 → r ≠ 38 → r ≠ 34 → r ≠ 41 → r ≠ 16 → r ≠ 18 → aLvs S k r = S r := fun r a1 a2 a3 a4 a5 a6 => aLvs_o S a1 a2 a3 a4 a5 a6 k
    have hMM := MR_of hA hR (by omega)
    have e48 : M 48 k = aLvs S k 7 k := by rw [hR.e48]
    have e50 : M 50 k = aLvs S k 9 k := by rw [hR.e50]
    have hsp := hA.2.1.2.2 k
    have nxt : ∀ (M' : Mem) (r j : Int), RM (aLvs S (k + 1)) M' (B + 8 * k + 8) → Fr M0 M' → gV mX7_tick1 (d + 3) P 127 [vR 47, vI k, vI r, vI j] [] M' := by
      intro M' r j hR' hF'
      repeat (refine gV_s rfl (by first | exact trivial | omega) ?_)
      have e1 : M' 47 1 = S 1 0 := by rw [hR'.s1, aLvs_o S (by decide) (by decide) (by decide) (by decide) (by decide) (by decide)]
      rw [e1]
      exact ih (k + 1) M' _ _ (by push_cast; omega) (by rw [show B + 8 * ((k + 1 : Nat) : Int) = B + 8 * k + 8 by push_cast; omega]; exact hR') hF'
    have step : aLvs S (k + 1) = if aLvs S k 9 k = 0 then aLvs S k else aLvK (aLvs S k) k (lvN (aLvs S k) k) := rfl
    rw [step] at nxt
    refine gV_in rfl (by unfold rng; omega) (by omega) ?_
    repeat (refine gV_s rfl (by first | exact trivial | omega) ?_)
    refine gV_cV (ok_firstQueued (d := d + 2) (M := M) (l := k) hMM (by unfold rng; omega)) mX7_firstQueued_ok sX7_X7_firstQueued rfl rfl rfl rfl rfl rfl ?_
    rintro v M' ⟨rfl, r', rfl, hf'⟩
    repeat (refine gV_s rfl (by first | exact trivial | omega) ?_)
    rw [e48]
    by_cases hu : aLvs S k 9 k = 0
    · rw [if_pos hu] at nxt
      have fin := fun r j => nxt M' r j (RM_B hR (by omega)) hF
      refine gV_i rfl (by unfold rng; omega) (fun h2 => fin _ _) (fun h2 => ?_)
      repeat (refine gV_s rfl (by first | exact trivial | omega) ?_)
      rw [e50, hu]
      exact gV_it rfl (by unfold rng; omega) rfl (fin _ _)
    · rw [if_neg hu] at nxt
      have hu1 : aLvs S k 9 k = 1 := by
        rcases hA.2.1.2.1 k with q | q
        · exact absurd q hu
        · exact q.1
      have := lv_in (d := d) (B := B + 8 * k) (M0 := M0) hA hu1 (by rw [eo 5 (by decide) (by decide) (by decide) (by decide) (by decide) (by decide)]; exact hlo _) (by omega) nxt (lvN (aLvs S k) k) 0 M' r' (by omega) (RM_B hR (by omega)) hF hf'
      exact this
