/-! The class's Traffic, walked. -/
theorem shp_row {l : Int} (h0 : 0 ≤ l) (h4 : l < 4) : shp (9 + 2 + l.toNat) = some (.inr (0, 400)) := by
  have : l = 0 ∨ l = 1 ∨ l = 2 ∨ l = 3 := by omega
  rcases this with rfl | rfl | rfl | rfl <;> rfl
theorem ok_enqueue {d : Nat} {M : Mem} {i l : Int} {P : PV → Mem → Prop} (i0 : 0 ≤ i) (i4 : i < 400) (l0 : 0 ≤ l) (l4 : l < 4) (he0 : 0 ≤ M 17 l) (he1 : M 17 l < 400) (hst : 0 ≤ M 34 i ∧ M 34 i ≤ 5) (hP : P none (aEnq M i l)) : gOk mX5_enqueue (d + 1) [vR 5, vI i, vI l] M P := by
  refine gOk_of mX5_enqueue_ok (by simp) (Nat.le_of_ble_eq_true rfl) ?_
  repeat (refine gV_s rfl (by first | exact trivial | omega) ?_)
  refine gV_it rfl (by unfold rng; omega) he1 ?_
  repeat (refine gV_s rfl (by first | exact trivial | omega) ?_)
  refine gV_iast rfl (shp_row l0 l4) (by decide) ⟨he0, he1⟩ ?_
  repeat (refine gV_s rfl (by first | exact trivial | omega) ?_)
  refine gV_cV (ok_turn (P := fun r M' => r = none ∧ M' = aEnq M i l) i0 i4 (by omega) ?_ ⟨rfl, rfl⟩) mX2_turn_ok sX5_X2_turn rfl rfl rfl rfl rfl rfl ?_
  · rw [mw_rn _ _ _ (by decide), mw_rn _ _ _ (by decide), mw_rn _ _ _ (show (34 : Nat) ≠ 9 + 2 + l.toNat by omega)]
    exact hst
  · rintro r M' ⟨rfl, rfl⟩
    exact gV_retv rfl trivial hP
theorem ok_letOut {d : Nat} {M : Mem} {i : Int} {P : PV → Mem → Prop} (i0 : 0 ≤ i) (i4 : i < 400) (ho0 : 0 ≤ M 41 4) (ho1 : M 41 4 < 400) (hst : 0 ≤ M 34 i ∧ M 34 i ≤ 5) (hf : 0 ≤ M 31 i ∧ M 31 i < 16) (hp : rng (M 32 i)) (hla : rng (M 29 (M 31 i))) (hP : P none (aLetOut M i)) : gOk mX5_letOut (d + 1) [vR 5, vI i] M P := by
  refine gOk_of mX5_letOut_ok (by simp) (Nat.le_of_ble_eq_true rfl) ?_
  repeat (refine gV_s rfl (by first | exact trivial | omega) ?_)
  refine gV_it rfl (by unfold rng; omega) ho1 ?_
  repeat (refine gV_s rfl (by first | exact trivial | omega) ?_)
  refine gV_cV (ok_turn (P := fun r M' => r = none ∧ M' = aTurn (mw M 40 (M 41 4) i) i 4) i0 i4 (by omega) ?_ ⟨rfl, rfl⟩) mX2_turn_ok sX5_X2_turn rfl rfl rfl rfl rfl rfl ?_
  · rw [mw_rn _ _ _ (by decide)]
    exact hst
  · rintro r M' ⟨rfl, rfl⟩
    repeat (refine gV_s rfl (by first | exact trivial | omega) ?_)
    have e5 : aTurn (mw M 40 (M 41 4) i) i 4 5 = M 5 := by rw [aTurn_o _ _ _ (by decide) (by decide), mw_rn _ _ _ (by decide)]
    have eo : ∀ r, r ≠ 39 → r ≠ 34 → r ≠ 41 → r ≠ 40 → mw (aTurn (mw M 40 (M 41 4) i) i 4) 39 i (aTurn (mw M 40 (M 41 4) i) i 4 5 0) r = M r := fun r a b c e => by rw [mw_rn _ _ _ a, aTurn_o _ _ _ b c, mw_rn _ _ _ e]
    rw [eo 31 (by decide) (by decide) (by decide) (by decide), eo 32 (by decide) (by decide) (by decide) (by decide)]
    refine gV_cV (ok_noteOut (P := fun r M' => r = none ∧ M' = aLetOut M i) hf.1 hf.2 hp ?_ ⟨rfl, ?_⟩) mX1_noteOut_ok sX5_X1_noteOut rfl rfl rfl rfl rfl rfl ?_
    · rw [eo 29 (by decide) (by decide) (by decide) (by decide)]
      exact hla
    · rw [e5]
      rfl
    · rintro r M' ⟨rfl, rfl⟩
      exact gV_retv rfl trivial hP
/-- what a letter's numbers may be, as the machine compares them -/
theorem AI_letOut {S : Mem} {lo : Int → Int} {x i : Int} (h : AI S lo x) (i0 : 0 ≤ i) (i1 : i < S 4 0) (hs : S 34 i ≠ 4) : i < 400 ∧ 0 ≤ S 41 4 ∧ S 41 4 < 400 ∧ (0 ≤ S 34 i ∧ S 34 i ≤ 5) ∧ (0 ≤ S 31 i ∧ S 31 i < 16) ∧ rng (S 32 i) ∧ rng (S 29 (S 31 i)) := by
  obtain ⟨ha, hl, hb, hn, hh, hf, ht, ks, kh, kf, kl, hq, hi, ho⟩ := h
  have h1 := ks 4 (by decide) (by decide)
  have h2 := (ct_nn (fun j => decide (S 34 j = 4)) (S 4 0).toNat)
  have h3 : ct (fun j => decide (S 34 j = 4)) (S 4 0).toNat < ct (fun _ => true) (S 4 0).toNat := ct_lt (fun _ _ _ _ => rfl) i0 (by omega) (by simpa using hs) rfl
  have h4 := (ct_nn (fun _ => true) (S 4 0).toNat)
  have h5 := ha.2.2.1
  have h6 := ht i
  have h7 := ho.2.2.1 (S 31 i)
  unfold rng
  omega
theorem leave_loop {d : Nat} {M : Mem} {lo : Int → Int} {x l : Int} {P : PV → Mem → Prop} (h : AI M lo x) (hu : M 9 l = 1) (hlo : lo l < M 5 0 + M 8 l) {e : Int} {N : Nat} (he : e = M 16 l + N) (hN : (N : Int) ≤ M 17 l - M 16 l) (hP : P none (aLvK M l N)) :
    ∀ (n j : Nat) (Mj : Mem) (z : PV), j + n = N → Ex [16, 18] Mj (aLvK M l j) → Mj 16 = M 16 → Mj 18 = M 18 →
      gV mX5_leave (d + 1) P 40 [vR 5, vI l, vI (M 16 l), vI e, vI (M 16 l + j), z] [vI e, vI (M 16 l + j)] Mj
  | 0, j, Mj, z, hj, hE, e16, e18 => by
    obtain ⟨l0, lL, l4⟩ := AI_up h hu
    have hjN : j = N := by omega
    subst hjN
    have hq := (h.2.2.2.2.2.2.2.2.2.2.2.1 l l0 l4).1
    have h5 := h.1.2.2.1
    have h6 := (h.2.2.2.2.2.2.2.2.2.2.1 l l0 l4).1
    have h7 := ct_nn (fun j => decide (M 35 j = l)) (M 4 0).toNat
    refine gV_it rfl (by unfold rng; omega) (by omega) ?_
    repeat (refine gV_s rfl (by first | exact trivial | omega) ?_)
    refine gV_retv rfl trivial ?_
    have hm : mw (mw Mj 16 l e) 18 l (mw Mj 16 l e 18 l + (e - M 16 l)) = aLvK M l j := by
      refine mem_ext (fun r => ?_)
      by_cases a : r = 18
      · subst a
        rw [mw_rs, mw_rn _ _ _ (by decide), e18, aLvK_18, he]
        congr 1
        omega
      · by_cases b : r = 16
        · subst b
          rw [mw_rn _ _ _ (by decide), mw_rs, e16, aLvK_16, he]
        · rw [mw_rn _ _ _ a, mw_rn _ _ _ b]
          exact hE r (by simp [a, b])
    have hm2 : mw (mw Mj 16 l e) 18 l (mw Mj 16 l e 18 l + (e - M 16 l)) = _ := hm
    rw [hm2]
    exact hP
  | n + 1, j, Mj, z, hj, hE, e16, e18 => by
    obtain ⟨l0, lL, l4⟩ := AI_up h hu
    have hS := AI_lvK h hu hlo j (by omega)
    have hq := (h.2.2.2.2.2.2.2.2.2.2.2.1 l l0 l4).1
    have h5 := h.1.2.2.1
    have h6 := (h.2.2.2.2.2.2.2.2.2.2.1 l l0 l4).1
    have h7 := ct_nn (fun j => decide (M 35 j = l)) (M 4 0).toNat
    have hS16 : aLvK M l j 16 l = M 16 l + j := by rw [aLvK_16, up1_s]
    have hSo : ∀ r, r ≠ 37 → r ≠ 38 → r ≠ 34 → r ≠ 41 → r ≠ 16 → r ≠ 18 → aLvK M l j r = M r := fun r a b c d e f => aLvK_o M l a b c d e f j
    have hrow : Mj (9 + 2 + l.toNat) = aLvK M l j (11 + l.toNat) := hE (11 + l.toNat) (by simp; omega)
    obtain ⟨g1, g2, g3, g4⟩ := (hS.2.2.2.2.2.2.2.2.2.2.2.1 l l0 l4).2.1 (M 16 l + j) (by omega) (by rw [hSo 17 (by decide) (by decide) (by decide) (by decide) (by decide) (by decide)]; omega)
    have g5 := g1.2.1
    rw [hSo 4 (by decide) (by decide) (by decide) (by decide) (by decide) (by decide)] at g5
    have hb1 : 0 ≤ Mj (9 + 2 + l.toNat) (M 16 l + j) ∧ Mj (9 + 2 + l.toNat) (M 16 l + j) < 400 := by
      rw [hrow]
      exact ⟨g1.1, Int.lt_of_lt_of_le g5 h5.2⟩
    have hst : 0 ≤ Mj 34 (Mj (9 + 2 + l.toNat) (M 16 l + j)) ∧ Mj 34 (Mj (9 + 2 + l.toNat) (M 16 l + j)) ≤ 5 := by
      rw [hE 34 (by simp)]
      exact (hS.2.2.2.2.2.2.1 _).2.2.2.1
    refine gV_in rfl (by unfold rng; omega) (by omega) ?_
    repeat (refine gV_s rfl (by first | exact trivial | omega) ?_)
    refine gV_iald rfl (shp_row l0 l4) (by decide) ⟨by omega, by omega⟩ ?_
    generalize hi : Mj (9 + 2 + l.toNat) (M 16 l + j) = i at hb1 hst
    repeat (refine gV_s rfl (by first | exact trivial | omega) ?_)
    refine gV_cV (ok_turn (P := fun r M' => r = none ∧ M' = aTurn (mw (mw Mj 37 i (Mj 5 0)) 38 i (mw Mj 37 i (Mj 5 0) 5 0 + mw Mj 37 i (Mj 5 0) 8 l)) i 2) hb1.1 hb1.2 (by omega) ?_ ⟨rfl, rfl⟩) mX2_turn_ok sX5_X2_turn rfl rfl rfl rfl rfl rfl ?_
    · rw [mw_rn _ _ _ (by decide), mw_rn _ _ _ (by decide)]
      exact hst
    · rintro r M' ⟨rfl, rfl⟩
      have ih := leave_loop (d := d) h hu hlo he hN hP n (j + 1) (aTurn (mw (mw Mj 37 i (Mj 5 0)) 38 i (mw Mj 37 i (Mj 5 0) 5 0 + mw Mj 37 i (Mj 5 0) 8 l)) i 2) (vI i) (by omega) ?_ ?_ ?_
      · have e9 : M 16 l + ((j + 1 : Nat) : Int) = M 16 l + j + 1 := by push_cast; omega
        rw [e9] at ih
        repeat (refine gV_s rfl (by first | exact trivial | omega) ?_)
        exact ih
      · have hqi : qr (aLvK M l j) l (aLvK M l j 16 l) = i := by
          rw [hS16, ← hi, hrow]
        rw [aLvK]
        unfold aLeave1
        rw [hqi]
        refine Ex.skip (Ex.skip (Ex.turn (Ex.w (Ex.w hE rfl ?_) rfl ?_) (by decide) (by decide) rfl) (by decide)) (by decide)
        · rw [hE 5 (by decide)]
        · rw [mw_rn _ _ _ (by decide), mw_rn _ _ _ (by decide), hE 5 (by decide), hE 8 (by decide)]
      · rw [aTurn_o _ _ _ (by decide) (by decide), mw_rn _ _ _ (by decide), mw_rn _ _ _ (by decide)]
        exact e16
      · rw [aTurn_o _ _ _ (by decide) (by decide), mw_rn _ _ _ (by decide), mw_rn _ _ _ (by decide)]
        exact e18
theorem ok_leave {d : Nat} {M : Mem} {lo : Int → Int} {x l : Int} {P : PV → Mem → Prop} (h : AI M lo x) (hu : M 9 l = 1) (hlo : lo l < M 5 0) (hP : P none (aLvK M l (lvN M l))) : gOk mX5_leave (d + 1) [vR 5, vI l] M P := by
  obtain ⟨l0, lL, l4⟩ := AI_up h hu
  have hq := (h.2.2.2.2.2.2.2.2.2.2.2.1 l l0 l4).1
  have h5 := h.1.2.2.1
  have h6 := (h.2.2.2.2.2.2.2.2.2.2.1 l l0 l4).1
  have h7 := ct_nn (fun j => decide (M 35 j = l)) (M 4 0).toNat
  have h8 := h.2.1.2.2 l
  refine gOk_of mX5_leave_ok (by simp) (Nat.le_of_ble_eq_true rfl) ?_
  repeat (refine gV_s rfl (by first | exact trivial | omega) ?_)
  refine gV_min rfl rfl (by unfold rng; omega) (by unfold rng; omega) rfl ?_
  repeat (refine gV_s rfl (by first | exact trivial | omega) ?_)
  have := leave_loop (d := d) (P := P) h hu (by omega) (N := lvN M l) (e := if M 17 l < M 16 l + M 7 l then M 17 l else M 16 l + M 7 l) (by unfold lvN; split <;> omega) (lvN_le h l0 l4) hP (lvN M l) 0 M none (by omega) Ex.rf rfl rfl
  rw [show M 16 l + ((0 : Nat) : Int) = M 16 l by omega] at this
  exact this

theorem arrive_loop {d : Nat} {l e : Int} {P : PV → Mem → Prop} {x : Int} {lo : Int → Int} (l0 : 0 ≤ l) (l4 : l < 4) :
    ∀ (n : Nat) (S Mj : Mem) (z : PV), AI S lo x → e = S 16 l → (S 16 l - S 15 l).toNat = n → Ex [15] Mj S → (∀ j, j ≠ l → Mj 15 j = S 15 j) → P none (aArF l n S) →
      gV mX5_arrive (d + 2) P 22 [vR 5, vI l, vI e, vI (S 15 l), z] [vI e, vI (S 15 l)] Mj
  | n, S, Mj, z, h, he, hn, hE, h15, hP => by
    have hq := (h.2.2.2.2.2.2.2.2.2.2.2.1 l l0 l4).1
    have h5 := h.1.2.2.1
    have h6 := (h.2.2.2.2.2.2.2.2.2.2.1 l l0 l4).1
    have h7 := ct_nn (fun j => decide (S 35 j = l)) (S 4 0).toNat
    have htm := h.1.2.2.2.1
    have hend : ¬ (S 15 l < S 16 l ∧ S 38 (qr S l (S 15 l)) = S 5 0) → gV mX5_arrive (d + 2) P 96 [vR 5, vI l, vI e, vI (S 15 l), z] [] Mj := by
      intro hc
      have eS : aArF l n S = S := by
        cases n with
        | zero => rfl
        | succ n => rw [aArF, if_neg hc]
      rw [eS] at hP
      repeat (refine gV_s rfl (by first | exact trivial | omega) ?_)
      refine gV_retv rfl trivial ?_
      have hm : mw Mj 15 l (S 15 l) = S := by
        refine mem_ext (fun r => ?_)
        by_cases a : r = 15
        · subst a
          rw [mw_rs]
          funext j
          rw [up1_e]
          split
          · rename_i q; rw [q]
          · rename_i q; exact h15 j q
        · rw [mw_rn _ _ _ a]
          exact hE r (by simp [a])
      have hm2 : mw Mj 15 l (S 15 l) = _ := hm
      rw [hm2]
      exact hP
    refine gV_i rfl (by unfold rng; omega) (fun h1 => ?_) (fun h1 => ?_)
    · exact hend (by omega)
    · have hlt : S 15 l < S 16 l := by omega
      obtain ⟨g1, g2, g3, g4⟩ := (h.2.2.2.2.2.2.2.2.2.2.2.1 l l0 l4).2.1 (S 15 l) (by omega) (by omega)
      have hst2 := (g3 (Int.le_refl _) hlt).1
      have hrow : Mj (9 + 2 + l.toNat) = S (11 + l.toNat) := hE (11 + l.toNat) (by simp; omega)
      have hgi : 0 ≤ S (11 + l.toNat) (S 15 l) ∧ S (11 + l.toNat) (S 15 l) < S 4 0 := ⟨g1.1, g1.2.1⟩
      repeat (refine gV_s rfl (by first | exact trivial | omega) ?_)
      refine gV_iald rfl (shp_row l0 l4) (by decide) ⟨by omega, by omega⟩ ?_
      rw [hrow]
      have hb1 : 0 ≤ S (11 + l.toNat) (S 15 l) ∧ S (11 + l.toNat) (S 15 l) < 400 := by omega
      repeat (refine gV_s rfl (by first | exact trivial | omega) ?_)
      have har := (h.2.2.2.2.2.2.1 (S (11 + l.toNat) (S 15 l))).2.2.2.2
      rw [hE 38 (by decide), hE 5 (by decide)]
      refine gV_i rfl (by unfold rng; omega) (fun h2 => ?_) (fun h2 => ?_)
      · have hc : S 15 l < S 16 l ∧ S 38 (qr S l (S 15 l)) = S 5 0 := ⟨hlt, h2⟩
        obtain ⟨n, rfl⟩ : ∃ k, n = k + 1 := ⟨n - 1, by omega⟩
        rw [aArF, if_pos hc] at hP
        have hA := AI_arr1 h l0 l4 hlt
        have e15 : aArr1 S l 15 l = S 15 l + 1 := by rw [aArr1_15, up1_s]
        have e16 : aArr1 S l 16 = S 16 := aArr1_o _ _ (by decide) (by decide) (by decide) (by decide) (by decide) (by decide) (by decide) (by decide)
        obtain ⟨i, hi⟩ : ∃ i, S (11 + l.toNat) (S 15 l) = i := ⟨_, rfl⟩
        have hi2 : qr S l (S 15 l) = i := hi
        have ih := fun Mk hk1 hk2 => arrive_loop (d := d) (e := e) l0 l4 n (aArr1 S l) Mk (vI i) hA (by rw [e16]; exact he) (by rw [e15, e16]; omega) hk1 hk2 hP
        rw [e15] at ih
        rw [hi] at hb1 hgi
        repeat (refine gV_s rfl (by first | exact trivial | omega) ?_)
        refine gV_iald rfl (shp_row l0 l4) (by decide) ⟨by omega, by omega⟩ ?_
        rw [hrow, hi]
        repeat (refine gV_s rfl (by first | exact trivial | omega) ?_)
        have hnum := h.1.2.2.2.2.1
        rw [hE 5 (by decide)]
        have hst : 0 ≤ Mj 34 i ∧ Mj 34 i ≤ 5 := by
          rw [hE 34 (by decide)]
          exact (h.2.2.2.2.2.2.1 _).2.2.2.1
        rw [hi2] at hst2
        refine gV_i rfl (by unfold rng; omega) (fun h3 => ?_) (fun h3 => ?_)
        · obtain ⟨w1, w2, w3, w4, w5, w6, w7⟩ := AI_letOut h hgi.1 hgi.2 (by omega)
          repeat (refine gV_s rfl (by first | exact trivial | omega) ?_)
          refine gV_cV (ok_letOut (d := d) (P := fun r M' => r = none ∧ M' = aLetOut Mj i) hb1.1 hb1.2 (by rw [hE 41 (by decide)]; exact w2) (by rw [hE 41 (by decide)]; exact w3) hst (by rw [hE 31 (by decide)]; exact w5) (by rw [hE 32 (by decide)]; exact w6) (by rw [hE 31 (by decide), hE 29 (by decide)]; exact w7) ⟨rfl, rfl⟩) mX5_letOut_ok sX5_X5_letOut rfl rfl rfl rfl rfl rfl ?_
          rintro r M' ⟨rfl, rfl⟩
          repeat (refine gV_s rfl (by first | exact trivial | omega) ?_)
          refine ih _ ?_ ?_
          · unfold aArr1
            rw [if_pos h3, hi2]
            exact Ex.skip (Ex.out hE (by simp) rfl) (by decide)
          · intro j hj
            rw [aLetOut_o _ _ (by decide) (by decide) (by decide) (by decide) (by decide) (by decide) (by decide), aArr1_15, up1_n _ _ hj]
            exact h15 j hj
        · repeat (refine gV_s rfl (by first | exact trivial | omega) ?_)
          refine gV_cV (ok_turn (d := d + 1) (P := fun r M' => r = none ∧ M' = aTurn Mj i 3) hb1.1 hb1.2 (by omega) hst ⟨rfl, rfl⟩) mX2_turn_ok sX5_X2_turn rfl rfl rfl rfl rfl rfl ?_
          rintro r M' ⟨rfl, rfl⟩
          repeat (refine gV_s rfl (by first | exact trivial | omega) ?_)
          refine ih _ ?_ ?_
          · unfold aArr1
            rw [if_neg h3, hi2]
            exact Ex.skip (Ex.turn hE (by decide) (by decide) rfl) (by decide)
          · intro j hj
            rw [aTurn_o _ _ _ (by decide) (by decide), aArr1_15, up1_n _ _ hj]
            exact h15 j hj
      · exact hend (fun q => h2 q.2)
theorem ok_arrive {d : Nat} {M : Mem} {lo : Int → Int} {x l : Int} {P : PV → Mem → Prop} (h : AI M lo x) (l0 : 0 ≤ l) (l4 : l < 4) (hP : P none (aAr M l)) : gOk mX5_arrive (d + 2) [vR 5, vI l] M P := by
  refine gOk_of mX5_arrive_ok (by simp) (Nat.le_of_ble_eq_true rfl) ?_
  repeat (refine gV_s rfl (by first | exact trivial | omega) ?_)
  exact arrive_loop l0 l4 _ M M none h rfl rfl Ex.rf (fun _ _ => rfl) hP
theorem bl_loop {d : Nat} {M : Mem} {P : PV → Mem → Prop} (kk : ∀ z : Int, gV mX5_letOutInOrder (d + 2) P 21 [vR 5, vI z, none, none] [] (bl0 M 16)) : ∀ (n f : Nat), f + n = 16 → gV mX5_letOutInOrder (d + 2) P 5 [vR 5, vI f, none, none] [vI 16, vI f] (bl0 M f)
  | 0, f, h => by
    have hf : f = 16 := by omega
    subst hf
    refine gV_it rfl (by unfold rng; omega) (show (16 : Int) ≤ _ by omega) ?_
    exact kk _
  | n + 1, f, h => by
    have ih := bl_loop kk n (f + 1) (by omega)
    refine gV_in rfl (by unfold rng; omega) (show ¬ (16 : Int) ≤ _ by omega) ?_
    repeat (refine gV_s rfl (by first | exact trivial | omega) ?_)
    exact ih
theorem out_loop {d : Nat} {S : Mem} {lo : Int → Int} {x : Int} {P : PV → Mem → Prop} (h : AI S lo x) (hP : P none (aOutC S (S 4 0).toNat)) : ∀ (n k : Nat) (z w : PV), (k : Int) + n = S 4 0 → (∀ f, 0 ≤ f → f < 16 → aOutC S k 42 f = 0 ∨ aOutC S k 42 f = 1) →
    gV mX5_letOutInOrder (d + 2) P 31 [vR 5, vI k, z, w] [vI (S 4 0), vI k] (aOutC S k)
  | 0, k, z, w, hk, _ => by
    have h4 := h.1.2.2.1
    have e : k = (S 4 0).toNat := by omega
    subst e
    refine gV_it rfl (by unfold rng; omega) (by omega) ?_
    repeat (refine gV_s rfl (by first | exact trivial | omega) ?_)
    exact gV_retv rfl trivial hP
  | n + 1, k, z, w, hk, hb => by
    have h4 := h.1.2.2.1
    have hS := AI_outC h k (by omega)
    have eo : ∀ j r, r ≠ 42 → r ≠ 27 → r ≠ 29 → r ≠ 30 → r ≠ 39 → r ≠ 34 → r ≠ 41 → r ≠ 40 → aOutC S j r = S r := fun j r a1 a2 a3 a4 a5 a6 a7 a8 => aOutC_o S a1 a2 a3 a4 a5 a6 a7 a8 j
    have ih := fun z w hb => out_loop (d := d) h hP n (k + 1) z w (by push_cast; omega) hb
    have hT := hS.2.2.2.2.2.2.1 k
    have hbk := hb (aOutC S k 31 k) hT.1.1 hT.1.2.1
    have step : aOutC S (k + 1) = if aOutC S k 34 k = 3 ∧ aOutC S k 42 (aOutC S k 31 k) = 0 then aLetOut (aOutC S k) k else if aOutC S k 34 k ≠ 4 ∧ aOutC S k 34 k ≠ 5 then mw (aOutC S k) 42 (aOutC S k 31 k) 1 else aOutC S k := rfl
    have e4' : aOutC S (k + 1) 4 0 = S 4 0 := by rw [eo _ 4 (by decide) (by decide) (by decide) (by decide) (by decide) (by decide) (by decide) (by decide)]
    have e4 : aOutC S k 4 0 = S 4 0 := by rw [eo _ 4 (by decide) (by decide) (by decide) (by decide) (by decide) (by decide) (by decide) (by decide)]
    rw [step] at ih e4'
    refine gV_in rfl (by unfold rng; omega) (by omega) ?_
    repeat (refine gV_s rfl (by first | exact trivial | omega) ?_)
    refine gV_i rfl (by unfold rng; omega) (fun h1 => ?_) (fun h1 => ?_)
    · repeat (refine gV_s rfl (by first | exact trivial | omega) ?_)
      refine gV_i rfl (by unfold rng; omega) (fun h2 => ?_) (fun h2 => ?_)
      · obtain ⟨w1, w2, w3, w4, w5, w6, w7⟩ := AI_letOut (i := k) hS (by omega) (by omega) (by omega)
        rw [if_pos ⟨h1, h2⟩] at ih e4'
        repeat (refine gV_s rfl (by first | exact trivial | omega) ?_)
        refine gV_cV (ok_letOut (d := d) (P := fun r M' => r = none ∧ M' = aLetOut (aOutC S k) k) (by omega) w1 w2 w3 w4 w5 w6 w7 ⟨rfl, rfl⟩) mX5_letOut_ok sX5_X5_letOut rfl rfl rfl rfl rfl rfl ?_
        rintro r M' ⟨rfl, rfl⟩
        repeat (refine gV_s rfl (by first | exact trivial | omega) ?_)
        rw [e4']
        refine ih _ _ (fun f f0 f1 => ?_)
        rw [aLetOut_o _ _ (by decide) (by decide) (by decide) (by decide) (by decide) (by decide) (by decide)]
        exact hb f f0 f1
      · rw [if_neg (fun q => h2 q.2), if_pos (by omega)] at ih e4'
        repeat (refine gV_s rfl (by first | exact trivial | omega) ?_)
        refine gV_in rfl (by unfold rng; omega) (by omega) ?_
        repeat (refine gV_s rfl (by first | exact trivial | omega) ?_)
        refine gV_in rfl (by unfold rng; omega) (by omega) ?_
        repeat (refine gV_s rfl (by first | exact trivial | omega) ?_)
        rw [e4']
        refine ih _ _ (fun f f0 f1 => ?_)
        rw [mw_rs, up1_e]
        split
        · exact Or.inr rfl
        · exact hb f f0 f1
    · repeat (refine gV_s rfl (by first | exact trivial | omega) ?_)
      rw [if_neg (fun q => h1 q.1)] at ih e4'
      refine gV_i rfl (by unfold rng; omega) (fun h2 => ?_) (fun h2 => ?_)
      · rw [if_neg (by omega)] at ih e4'
        repeat (refine gV_s rfl (by first | exact trivial | omega) ?_)
        rw [e4']
        exact ih _ _ hb
      · repeat (refine gV_s rfl (by first | exact trivial | omega) ?_)
        refine gV_i rfl (by unfold rng; omega) (fun h3 => ?_) (fun h3 => ?_)
        · rw [if_neg (by omega)] at ih e4'
          repeat (refine gV_s rfl (by first | exact trivial | omega) ?_)
          rw [e4']
          exact ih _ _ hb
        · rw [if_pos (by omega)] at ih e4'
          repeat (refine gV_s rfl (by first | exact trivial | omega) ?_)
          rw [e4']
          refine ih _ _ (fun f f0 f1 => ?_)
          rw [mw_rs, up1_e]
          split
          · exact Or.inr rfl
          · exact hb f f0 f1
