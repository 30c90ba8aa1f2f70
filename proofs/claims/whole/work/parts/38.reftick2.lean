/-! The reference: arriving, coming out, settling; a tick; ticks. -/
theorem ar_in {d : Nat} {M0 : Mem} {lo : Int → Int} {x B l : Int} {z : PV} {P : PV → Mem → Prop} (l0 : 0 ≤ l) (l4 : l < 4) (hB : B ≤ 2000000000) : ∀ (n : Nat) (U : Mem)
    (_ : ∀ (M' : Mem) (r : Int), RM (aArF l n U) M' B → Fr M0 M' → gV mX7_tick1 (d + 3) P 184 [vR 47, vI l, vI r, z] [] M')
    (M : Mem) (r : Int), AI U lo x → lo l = U 5 0 - 1 → n = (U 16 l - U 15 l).toNat → RM U M B → Fr M0 M → fstA M l (M 47 16) r → gV mX7_tick1 (d + 3) P 150 [vR 47, vI l, vI r, z] [vI r] M := by
  intro n
  induction n with
  | zero =>
    intro U kk M r hA hlo hn hR hF hf
    have h1 := fst_a hA hR l0 l4 hlo hf
    have hr : r = -6 := by
      rcases h1 with q | q
      · exact q.2
      · omega
    subst hr
    exact gV_it rfl (by unfold rng; omega) (by omega) (kk M _ hR hF)
  | succ n ih =>
    intro U kk M r hA hlo hn hR hF hf
    have h1 := fst_a hA hR l0 l4 hlo hf
    have h4 := hA.1.2.2.1
    have h5 := hA.1.2.2.2.2.1
    have e15 : M 47 15 = U 5 1 := hR.s15
    have step : aArF l (n + 1) U = if U 15 l < U 16 l ∧ U 38 (qr U l (U 15 l)) = U 5 0 then aArF l n (aArr1 U l) else U := rfl
    rw [step] at kk
    rcases h1 with ⟨c, rfl⟩ | ⟨c, hr, r0, r1, r2⟩
    · rw [if_neg c] at kk
      exact gV_it rfl (by unfold rng; omega) (by omega) (kk M _ hR hF)
    · rw [if_pos c] at kk
      have hA2 := AI_arr1 hA l0 l4 c.1
      have e16 : aArr1 U l 16 = U 16 := aArr1_o _ _ (by decide) (by decide) (by decide) (by decide) (by decide) (by decide) (by decide) (by decide)
      have eU5 : aArr1 U l 5 = U 5 := aArr1_o _ _ (by decide) (by decide) (by decide) (by decide) (by decide) (by decide) (by decide) (by decide)
      have ih2 := fun M' r' => ih (aArr1 U l) kk M' r' hA2 (by rw [eU5]; exact hlo) (by rw [e16, aArr1_15, up1_s]; omega)
      have rest : ∀ M' : Mem, RM (aArr1 U l) M' B → Fr M0 M' → gV mX7_tick1 (d + 3) P 175 [vR 47, vI l, vI r, z] [] M' := by
        intro M' hR' hF'
        have hMM := MR_of hA2 hR' hB
        repeat (refine gV_s rfl (by first | exact trivial | omega) ?_)
        refine gV_cV (ok_firstArriving (d := d + 2) (M := M') (l := l) hMM (by unfold rng; omega)) mX7_firstArriving_ok sX7_X7_firstArriving rfl rfl rfl rfl rfl rfl ?_
        rintro v M'' ⟨rfl, r', rfl, hf'⟩
        repeat (refine gV_s rfl (by first | exact trivial | omega) ?_)
        exact ih2 M'' r' hR' hF' hf'
      refine gV_in rfl (by unfold rng; omega) (by omega) ?_
      repeat (refine gV_s rfl (by first | exact trivial | omega) ?_)
      rw [e15]
      have hs4 : U 34 (qr U l (U 15 l)) ≠ 4 := by rw [← hr, r2]; decide
      refine gV_i rfl (by unfold rng; omega) (fun hn0 => ?_) (fun hn0 => ?_)
      · have hR2 := RM_arrOut hA hR hn0 hs4
        rw [← hr] at hR2
        obtain ⟨q1, q2, q3, -⟩ := AI_letOut hA r0 r1 (by rw [r2]; decide)
        repeat (refine gV_s rfl (by first | exact trivial | omega) ?_)
        refine gV_cV (ok_comesOut (d := d + 2) (M := M) (i := r) (P := fun v M' => v = none ∧ M' = mOut M r) r0 q1 (by rw [hR.s29]; exact q2) (by rw [hR.s29]; exact q3) ⟨rfl, rfl⟩) mX7_comesOut_ok sX7_X7_comesOut rfl rfl rfl rfl rfl rfl ?_
        rintro v M' ⟨rfl, rfl⟩
        exact rest _ hR2 (Fr.w (Fr.w (Fr.w (Fr.w hF (by decide)) (by decide)) (by decide)) (by decide))
      · have hR2 := RM_arrWait hR hn0 hs4
        rw [← hr] at hR2
        refine gV_s rfl trivial (gV_s rfl trivial (gV_s rfl trivial (gV_s rfl trivial (gV_s rfl (by omega) (gV_s rfl trivial ?_)))))
        exact rest _ hR2 (Fr.w hF (by decide))
theorem ar_out {d : Nat} {S M0 : Mem} {x B : Int} {z : PV} {P : PV → Mem → Prop} (h : AI S (fun _ => S 5 0 - 1) x) (hB : B ≤ 2000000000)
    (kk : ∀ (M' : Mem) (z1 : Int) (z2 : PV), RM (aArs S (S 1 0).toNat) M' B → Fr M0 M' → gV mX7_tick1 (d + 3) P 190 [vR 47, vI z1, z2, z] [] M') :
    ∀ (n k : Nat) (M : Mem) (z2 : PV), (k : Int) + n = S 1 0 → RM (aArs S k) M B → Fr M0 M → gV mX7_tick1 (d + 3) P 140 [vR 47, vI k, z2, z] [vI (S 1 0), vI k] M := by
  have hL := h.1.1
  intro n
  induction n with
  | zero =>
    intro k M z2 hk hR hF
    have e : k = (S 1 0).toNat := by omega
    subst e
    exact gV_it rfl (by unfold rng; omega) (by omega) (kk M _ _ hR hF)
  | succ n ih =>
    intro k M z2 hk hR hF
    have hA := AI_ars h k (by omega)
    have e5 : aArs S k 5 = S 5 := aArs_o S (by decide) (by decide) (by decide) (by decide) (by decide) (by decide) (by decide) (by decide) k
    have hMM := MR_of hA hR (by omega)
    refine gV_in rfl (by unfold rng; omega) (by omega) ?_
    repeat (refine gV_s rfl (by first | exact trivial | omega) ?_)
    refine gV_cV (ok_firstArriving (d := d + 2) (M := M) (l := k) hMM (by unfold rng; omega)) mX7_firstArriving_ok sX7_X7_firstArriving rfl rfl rfl rfl rfl rfl ?_
    rintro v M' ⟨rfl, r', rfl, hf'⟩
    refine gV_s rfl trivial (gV_s rfl trivial ?_)
    refine ar_in (d := d) (l := (k : Int)) (B := B) (M0 := M0) (by omega) (by omega) hB (aArs S k 16 k - aArs S k 15 k).toNat (aArs S k) (fun M2 r2 hR2 hF2 => ?_) M' r' hA (by rw [e5]; simp) rfl hR hF hf'
    have step : aArs S (k + 1) = aArF k (aArs S k 16 k - aArs S k 15 k).toNat (aArs S k) := rfl
    rw [← step] at hR2
    repeat (refine gV_s rfl (by first | exact trivial | omega) ?_)
    have e1 : M2 47 1 = S 1 0 := by rw [hR2.s1, aArs_o S (by decide) (by decide) (by decide) (by decide) (by decide) (by decide) (by decide) (by decide)]
    rw [e1]
    exact ih (k + 1) M2 _ (by push_cast; omega) hR2 hF2
/-! out -/
theorem out_inv {S : Mem} {lo : Int → Int} {x : Int} (h : AI S lo x) (h42 : ∀ f, 0 ≤ f → f < 16 → S 42 f = 0) : ∀ k : Nat, (k : Int) ≤ S 4 0 → ∀ f, 0 ≤ f → f < 16 → (aOutC S k 42 f = 0 ↔ ∀ j : Int, 0 ≤ j → j < k → S 31 j ≠ f ∨ 4 ≤ aOutC S k 34 j)
  | 0, _, f, f0, f1 => by
    constructor
    · intro _ j a b; omega
    · intro _; exact h42 f f0 f1
  | k + 1, hk, f, f0, f1 => by
    have ih := out_inv h h42 k (by omega) f f0 f1
    have hA := AI_outC h k (by omega)
    have hst := (hA.2.2.2.2.2.2.1 k).2.2.2.1
    have e31 : aOutC S k 31 = S 31 := aOutC_o S (by decide) (by decide) (by decide) (by decide) (by decide) (by decide) (by decide) (by decide) k
    unfold aOutC
    dsimp only
    rw [e31]
    split
    · rename_i hc
      rw [aLetOut_o _ _ (by decide) (by decide) (by decide) (by decide) (by decide) (by decide) (by decide), aLetOut_34, ih]
      constructor
      · intro q j a b
        by_cases e : j = k
        · right; rw [e, up1_s]; decide
        · rw [up1_n _ _ e]; exact q j a (by omega)
      · intro q j a b
        have := q j a (by omega)
        rw [up1_n _ _ (by omega)] at this
        exact this
    · split
      · rename_i hc1 hc2
        rw [mw_rs, mw_rn _ _ _ (by decide)]
        by_cases e : f = S 31 k
        · subst e
          rw [up1_s]
          constructor
          · intro q; omega
          · intro q
            rcases q k (by omega) (by omega) with q | q
            · exact absurd rfl q
            · omega
        · rw [up1_n _ _ e, ih]
          constructor
          · intro q j a b
            by_cases e2 : j = k
            · left; rw [e2]; exact fun q => e q.symm
            · exact q j a (by omega)
          · intro q j a b
            exact q j a (by omega)
      · rename_i hc1 hc2
        rw [ih]
        constructor
        · intro q j a b
          by_cases e2 : j = k
          · right; rw [e2]; omega
          · exact q j a (by omega)
        · intro q j a b
          exact q j a (by omega)
theorem out_loopM {d : Nat} {S M0 : Mem} {lo : Int → Int} {x B : Int} {z2 z3 : PV} {P : PV → Mem → Prop} (h : AI S lo x) (h42 : ∀ f, 0 ≤ f → f < 16 → S 42 f = 0) (hB : B ≤ 2000000000)
    (kk : ∀ (M' : Mem) (z1 : Int), RM (aOutC S (S 4 0).toNat) M' B → Fr M0 M' → gV mX7_tick1 (d + 3) P 229 [vR 47, vI z1, z2, z3] [] M') :
    ∀ (n k : Nat) (M : Mem), (k : Int) + n = S 4 0 → RM (aOutC S k) M B → Fr M0 M → gV mX7_tick1 (d + 3) P 197 [vR 47, vI k, z2, z3] [vI (S 4 0), vI k] M := by
  have h4 := h.1.2.2.1
  intro n
  induction n with
  | zero =>
    intro k M hk hR hF
    have e : k = (S 4 0).toNat := by omega
    subst e
    exact gV_it rfl (by unfold rng; omega) (by omega) (kk M _ hR hF)
  | succ n ih =>
    intro k M hk hR hF
    have hA := AI_outC h k (by omega)
    have hT := hA.2.2.2.2.2.2.1 k
    have hMM := MR_of hA hR (by omega)
    have e31 : aOutC S k 31 = S 31 := aOutC_o S (by decide) (by decide) (by decide) (by decide) (by decide) (by decide) (by decide) (by decide) k
    have e4 : aOutC S k 4 = S 4 := aOutC_o S (by decide) (by decide) (by decide) (by decide) (by decide) (by decide) (by decide) (by decide) k
    have inv := out_inv h h42 k (by omega) (aOutC S k 31 k) hT.1.1 hT.1.2.1
    rw [← e31] at inv
    have e61 : M 61 k = aOutC S k 34 k := by rw [hR.e61]
    have step : aOutC S (k + 1) = if aOutC S k 34 k = 3 ∧ aOutC S k 42 (aOutC S k 31 k) = 0 then aLetOut (aOutC S k) k else if aOutC S k 34 k ≠ 4 ∧ aOutC S k 34 k ≠ 5 then mw (aOutC S k) 42 (aOutC S k 31 k) 1 else aOutC S k := rfl
    have nxt : ∀ M' : Mem, RM (aOutC S (k + 1)) M' B → Fr M0 M' → gV mX7_tick1 (d + 3) P 223 [vR 47, vI k, z2, z3] [] M' := by
      intro M' hR' hF'
      repeat (refine gV_s rfl (by first | exact trivial | omega) ?_)
      have e16 : M' 47 16 = S 4 0 := by rw [hR'.s16, aOutC_o S (by decide) (by decide) (by decide) (by decide) (by decide) (by decide) (by decide) (by decide)]
      rw [e16]
      exact ih (k + 1) M' (by push_cast; omega) hR' hF'
    have stay : ¬ (aOutC S k 34 k = 3 ∧ aOutC S k 42 (aOutC S k 31 k) = 0) → gV mX7_tick1 (d + 3) P 223 [vR 47, vI k, z2, z3] [] M := by
      intro hc
      refine nxt M ?_ hF
      rw [step, if_neg hc]
      split
      · exact RM_S hR (fun r hr => mw_rn _ _ _ (by rintro rfl; cases hr))
      · exact hR
    refine gV_in rfl (by unfold rng; omega) (by omega) ?_
    repeat (refine gV_s rfl (by first | exact trivial | omega) ?_)
    rw [e61]
    refine gV_i rfl (by unfold rng; omega) (fun h1 => ?_) (fun h1 => ?_)
    · repeat (refine gV_s rfl (by first | exact trivial | omega) ?_)
      refine gV_cV (ok_isNext (d := d + 2) (M := M) (i := k) hMM (by omega) (by omega)) mX7_isNext_ok sX7_X7_isNext rfl rfl rfl rfl rfl rfl ?_
      rintro r M' ⟨rfl, ⟨h2, rfl⟩ | ⟨h2, rfl⟩⟩
      · have hb : aOutC S k 42 (aOutC S k 31 k) = 0 := by
          rw [inv]
          intro j a b
          have := h2 j a b
          rw [hR.e58, hR.e61] at this
          exact this
        refine gV_in rfl (by unfold rng; omega) (by omega) ?_
        obtain ⟨q1, q2, q3, -⟩ := AI_letOut hA (i := k) (by omega) (by rw [e4]; omega) (by rw [h1]; decide)
        repeat (refine gV_s rfl (by first | exact trivial | omega) ?_)
        refine gV_cV (ok_comesOut (d := d + 2) (M := M') (i := k) (P := fun v M2 => v = none ∧ M2 = mOut M' k) (by omega) q1 (by rw [hR.s29]; exact q2) (by rw [hR.s29]; exact q3) ⟨rfl, rfl⟩) mX7_comesOut_ok sX7_X7_comesOut rfl rfl rfl rfl rfl rfl ?_
        rintro v M2 ⟨rfl, rfl⟩
        refine nxt _ ?_ (Fr.w (Fr.w (Fr.w (Fr.w hF (by decide)) (by decide)) (by decide)) (by decide))
        rw [step, if_pos ⟨h1, hb⟩]
        exact RM_out hA hR (by rw [h1]; decide)
      · refine gV_it rfl (by unfold rng; omega) rfl ?_
        refine stay (fun q => h2 ?_)
        intro j a b
        rw [hR.e58, hR.e61]
        exact inv.mp q.2 j a b
    · exact stay (fun q => h1 q.1)
theorem out_idle {d : Nat} {S M : Mem} {z2 z3 : PV} {lo : Int → Int} {x B : Int} {P : PV → Mem → Prop} (h : AI S lo x) (h3 : ¬ 0 < S 41 3) (hR : RM S M B)
    (kk : ∀ (z1 : Int), gV mX7_tick1 (d + 3) P 229 [vR 47, vI z1, z2, z3] [] M) :
    ∀ (n k : Nat), (k : Int) + n = S 4 0 → gV mX7_tick1 (d + 3) P 197 [vR 47, vI k, z2, z3] [vI (S 4 0), vI k] M := by
  have h4 := h.1.2.2.1
  have k3 := h.2.2.2.2.2.2.2.1 3 (by decide) (by decide)
  have n3 := ct_nn (fun j => decide (S 34 j = 3)) (S 4 0).toNat
  have hz := ct_zero (p := fun j => decide (S 34 j = 3)) (n := (S 4 0).toNat) (by omega)
  intro n
  induction n with
  | zero =>
    intro k hk
    exact gV_it rfl (by unfold rng; omega) (by omega) (kk _)
  | succ n ih =>
    intro k hk
    have hT := h.2.2.2.2.2.2.1 k
    have e61 : M 61 k = S 34 k := by rw [hR.e61]
    have hne := hz k (by omega) (by omega)
    simp only [decide_eq_false_iff_not] at hne
    refine gV_in rfl (by unfold rng; omega) (by omega) ?_
    repeat (refine gV_s rfl (by first | exact trivial | omega) ?_)
    rw [e61]
    refine gV_in rfl (by unfold rng; omega) hne ?_
    repeat (refine gV_s rfl (by first | exact trivial | omega) ?_)
    rw [hR.s16]
    exact ih (k + 1) (by push_cast; omega)
theorem set_loopM {d : Nat} {S M0 : Mem} {lo : Int → Int} {B : Int} {z2 z3 : PV} {P : PV → Mem → Prop} (h : AI S lo (-1)) (hB : B + 3200 ≤ 2000000000)
    (hP : ∀ M', RM (aSets S 8) M' (B + 3200) → Fr M0 M' → P none M') : ∀ (n k : Nat) (M : Mem), k + n = 8 → RM (aSets S k) M (B + 400 * k) → Fr M0 M → gV mX7_tick1 (d + 3) P 234 [vR 47, vI k, z2, z3] [vI 8, vI k] M := by
  intro n
  induction n with
  | zero =>
    intro k M hk hR hF
    have e : k = 8 := by omega
    subst e
    refine gV_it rfl (by unfold rng; omega) (by omega) ?_
    exact gV_retv rfl trivial (hP M (RM_B hR (by omega)) hF)
  | succ n ih =>
    intro k M hk hR hF
    have hA := AI_sets h k (by omega)
    have hbk := AI_bk hA k
    have hb := hA.2.2.1 k
    have e53 : M 53 k = aSets S k 20 k := by rw [hR.e53]
    have e54 : M 54 k = aSets S k 21 k := by rw [hR.e54]
    have step : aSets S (k + 1) = if aSets S k 20 k ≠ -6 ∨ aSets S k 21 k ≠ 0 then aSettle (aSets S k) k else aSets S k := rfl
    have nxt : ∀ M' : Mem, RM (aSets S (k + 1)) M' (B + 400 * k + 400) → Fr M0 M' → gV mX7_tick1 (d + 3) P 261 [vR 47, vI k, z2, z3] [] M' := by
      intro M' hR' hF'
      repeat (refine gV_s rfl (by first | exact trivial | omega) ?_)
      exact ih (k + 1) M' (by omega) (by rw [show B + 400 * ((k + 1 : Nat) : Int) = B + 400 * k + 400 by push_cast; omega]; exact hR') hF'
    have doit : (aSets S k 20 k ≠ -6 ∨ aSets S k 21 k ≠ 0) → gV mX7_tick1 (d + 3) P 255 [vR 47, vI k, z2, z3] [] M := by
      intro hc
      have hg0 : goal (aSets S k) k ≠ -6 := by
        unfold goal
        split
        · exact hb.2.2.2.1 (by omega)
        · assumption
      repeat (refine gV_s rfl (by first | exact trivial | omega) ?_)
      refine gV_cV (ok_settleM (d := d) (B := B + 400 * k) (b := (k : Int)) hA (by omega) (by omega) hR (by omega) hg0 (goal_up hA hg0)) mX7_settle_ok sX7_X7_settle rfl rfl rfl rfl rfl rfl ?_
      rintro r M' ⟨rfl, hR', hF'⟩
      refine gV_s rfl trivial ?_
      refine nxt M' ?_ (Fr.tr hF hF')
      rw [step, if_pos hc]
      exact hR'
    refine gV_in rfl (by unfold rng; omega) (by omega) ?_
    repeat (refine gV_s rfl (by first | exact trivial | omega) ?_)
    rw [e53]
    refine gV_i rfl (by unfold rng; omega) (fun h1 => doit (Or.inl (by omega))) (fun h1 => ?_)
    repeat (refine gV_s rfl (by first | exact trivial | omega) ?_)
    rw [e54]
    refine gV_i rfl (by unfold rng; omega) (fun h2 => ?_) (fun h2 => doit (Or.inr h2))
    refine nxt M ?_ hF
    rw [step, if_neg (by omega)]
    exact RM_B hR (by omega)
theorem ok_tick1 {d : Nat} {S M : Mem} {B : Int} (h : NI S) (ht : S 5 0 < 1000000) (hR : RM S M B) (hB : B + 3300 ≤ 2000000000) : gOk mX7_tick1 (d + 3) [vR 47] M (fun r M' => r = none ∧ RM (aTick S) M' (B + 3300) ∧ Fr M M') := by
  have hL := h.1.1
  have h1 := AI_tk1 h ht
  have h2 := AI_tk2 h ht
  have h3 := AI_tk3 h ht
  have h4 := AI_tk4 h ht
  have h5 := h.1.2.2.2.1
  have e0 : M 47 0 = S 5 0 := hR.s0
  have c1 : tk1 S 1 = S 1 := mw_rn _ _ _ (by decide)
  have e25 : tk2 S 5 0 = S 5 0 + 1 := by rw [tk2_5]; exact tk1_t S
  have hR1 : RM (tk1 S) (mw M 47 0 (M 47 0 + 1)) B := by rw [e0]; exact RM_sc hR (by simp)
  have fin : ∀ (M' : Mem) (z1 : Int) (z2 z3 : PV), RM (tk4 S) M' (B + 32) → Fr M M' → gV mX7_tick1 (d + 3) (fun r M' => r = none ∧ RM (aTick S) M' (B + 3300) ∧ Fr M M') 229 [vR 47, vI z1, z2, z3] [] M' := by
    intro M' z1 z2 z3 hR' hF'
    repeat (refine gV_s rfl (by first | exact trivial | omega) ?_)
    exact set_loopM (d := d) (B := B + 32) (M0 := M) h4 (by omega) (fun M2 a b => ⟨rfl, RM_B a (by omega), b⟩) 8 0 M' rfl (RM_B hR' (by omega)) hF'
  have outs : ∀ (M' : Mem) (z1 : Int) (z2 z3 : PV), RM (tk3 S) M' (B + 32) → Fr M M' → gV mX7_tick1 (d + 3) (fun r M' => r = none ∧ RM (aTick S) M' (B + 3300) ∧ Fr M M') 190 [vR 47, vI z1, z2, z3] [] M' := by
    intro M' z1 z2 z3 hR' hF'
    have hn := h3.1.2.2.1
    repeat (refine gV_s rfl (by first | exact trivial | omega) ?_)
    rw [hR'.s16]
    by_cases c : 0 < tk3 S 41 3
    · have e4 : tk4 S = aOutC (bl0 (tk3 S) 16) (tk3 S 4 0).toNat := by unfold tk4 aOuts; rw [if_pos c]
      have hb : AI (bl0 (tk3 S) 16) (fun _ => S 5 0 + 1) (-1) := AI_scr h3 (fun r hr => bl0_o _ hr 16)
      have eb4 : bl0 (tk3 S) 16 4 = tk3 S 4 := bl0_o _ (by decide) 16
      have := out_loopM (d := d) (B := B + 32) (M0 := M) (z2 := z2) (z3 := z3) (P := fun r M' => r = none ∧ RM (aTick S) M' (B + 3300) ∧ Fr M M') hb (fun f f0 f1 => bl0_42 _ 16 f f0 (by omega)) (by omega) (fun M2 z a b => fin M2 z z2 z3 (by rw [e4, ← eb4]; exact a) b) (tk3 S 4 0).toNat 0 M' (by rw [eb4]; omega) (RM_S hR' (fun r hr => bl0_o _ (by rintro rfl; cases hr) 16)) hF'
      rw [eb4] at this
      exact this
    · have e4 : tk4 S = tk3 S := by unfold tk4 aOuts; rw [if_neg c]
      exact out_idle (d := d) h3 c hR' (fun z => fin M' z z2 z3 (by rw [e4]; exact hR') hF') (tk3 S 4 0).toNat 0 (by omega)
  have ars : ∀ (M' : Mem) (z1 : Int) (z2 z3 : PV), RM (tk2 S) M' (B + 32) → Fr M M' → gV mX7_tick1 (d + 3) (fun r M' => r = none ∧ RM (aTick S) M' (B + 3300) ∧ Fr M M') 133 [vR 47, vI z1, z2, z3] [] M' := by
    intro M' z1 z2 z3 hR' hF'
    repeat (refine gV_s rfl (by first | exact trivial | omega) ?_)
    rw [hR'.s1]
    refine ar_out (d := d) (B := B + 32) (M0 := M) (S := tk2 S) (x := -1) ?_ (by omega) (fun M2 z z2' a b => outs M2 z z2' z3 (by unfold tk3; rw [← tk2_1 S]; exact a) b) (tk2 S 1 0).toNat 0 M' z2 (by rw [tk2_1]; omega) hR' hF'
    rw [e25, show S 5 0 + 1 - 1 = S 5 0 by omega]
    exact h2
  refine gOk_of mX7_tick1_ok (by simp) (Nat.le_of_ble_eq_true rfl) ?_
  repeat (refine gV_s rfl (by first | exact trivial | omega) ?_)
  have e1 : mw M 47 0 (M 47 0 + 1) 47 1 = S 1 0 := by rw [hR1.s1, c1]
  rw [e1]
  have := lv_out (d := d) (B := B) (M0 := M) (S := tk1 S) (P := fun r M' => r = none ∧ RM (aTick S) M' (B + 3300) ∧ Fr M M') h1 (fun l => by show S 5 0 < tk1 S 5 0; rw [tk1_t]; omega) (by omega) (fun M2 z z2 z3 a b => ars M2 z z2 z3 (by unfold tk2; rw [← c1]; exact a) b) (S 1 0).toNat 0 (mw M 47 0 (M 47 0 + 1)) none none (by rw [c1]; omega) (RM_B hR1 (by omega)) (Fr.w Fr.rf (by decide))
  rw [c1] at this
  exact this
