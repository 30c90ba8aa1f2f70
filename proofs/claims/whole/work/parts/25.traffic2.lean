/-! The class's Traffic, walked: coming out, letting go, settling, a tick. -/
theorem ok_letOutInOrder {d : Nat} {M : Mem} {lo : Int → Int} {x : Int} {P : PV → Mem → Prop} (h : AI M lo x) (hP : P none (aOutC (bl0 M 16) (M 4 0).toNat)) : gOk mX5_letOutInOrder (d + 2) [vR 5] M P := by
  have hb : AI (bl0 M 16) lo x := AI_scr h (fun r hr => bl0_o M hr 16)
  have e4 : bl0 M 16 4 = M 4 := bl0_o M (by decide) 16
  have h4 := h.1.2.2.1
  refine gOk_of mX5_letOutInOrder_ok (by simp) (Nat.le_of_ble_eq_true rfl) ?_
  repeat (refine gV_s rfl (by first | exact trivial | omega) ?_)
  refine bl_loop (M := M) (fun z => ?_) 16 0 rfl
  repeat (refine gV_s rfl (by first | exact trivial | omega) ?_)
  have := out_loop (d := d) (P := P) hb (by rw [e4]; exact hP) (bl0 M 16 4 0).toNat 0 none none (by rw [e4]; omega) (fun f f0 f1 => Or.inl (bl0_42 M 16 f f0 (by omega)))
  exact this
theorem mayk_mono {S : Mem} {b l : Int} {k : Nat} : ∀ {n : Nat}, k ≤ n → mayk S b l n = true → mayk S b l k = true
  | 0, h, hm => by
    have : k = 0 := by omega
    subst this
    exact hm
  | n + 1, h, hm => by
    by_cases e : k = n + 1
    · subst e; exact hm
    · have : mayk S b l n = true := by
        simp only [mayk, Bool.and_eq_true] at hm
        exact hm.1
      exact mayk_mono (by omega) this
theorem mayk_all {S : Mem} {b l : Int} : ∀ {n : Nat}, (∀ i : Int, 0 ≤ i → i < n → ¬ (S 34 i = 1) ∧ ¬ (S 34 i = 2)) → mayk S b l n = true
  | 0, _ => rfl
  | n + 1, h => by
    have h1 := mayk_all (S := S) (b := b) (l := l) (n := n) (fun i a c => h i a (by omega))
    have h2 := h n (by omega) (by omega)
    simp [mayk, h1, h2]
theorem may_loop {d : Nat} {M : Mem} {lo : Int → Int} {x b l : Int} (h : AI M lo x) (hb : rng b) (l0 : 0 ≤ l) (l4 : l < 4) : ∀ (n k : Nat), (k : Int) + n = M 4 0 → mayk M b l k = true →
    gV mX5_mayReach (d + 1) (yn (may M b l = true) M) 41 [vR 5, vI b, vI l, vI (M 5 0 + 1 + M 8 l), vI k] [vI (M 4 0), vI k] M
  | 0, k, hk, hm => by
    have h4 := h.1.2.2.1
    have e : k = (M 4 0).toNat := by omega
    refine gV_it rfl (by unfold rng; omega) (by omega) ?_
    repeat (refine gV_s rfl (by first | exact trivial | omega) ?_)
    exact gV_ret rfl (Or.inr rfl) ⟨rfl, Or.inl ⟨by rw [e] at hm; exact hm, rfl⟩⟩
  | n + 1, k, hk, hm => by
    have h4 := h.1.2.2.1
    have htm := h.1.2.2.2.1
    have hdl := h.2.1.2.2 l
    have hT := h.2.2.2.2.2.2.1 k
    have ih := may_loop (d := d) h hb l0 l4 n (k + 1) (by push_cast; omega)
    have bad : mayk M b l (k + 1) = false → ¬ may M b l = true := fun q1 q2 => by
      have := mayk_mono (k := k + 1) (n := (M 4 0).toNat) (by omega) q2
      rw [q1] at this
      cases this
    unfold rng at hb
    refine gV_in rfl (by unfold rng; omega) (by omega) ?_
    repeat (refine gV_s rfl (by first | exact trivial | omega) ?_)
    refine gV_i rfl (by unfold rng; omega) (fun h1 => ?_) (fun h1 => ?_)
    · repeat (refine gV_s rfl (by first | exact trivial | omega) ?_)
      refine gV_i rfl (by unfold rng; omega) (fun h2 => ?_) (fun h2 => ?_)
      · repeat (refine gV_s rfl (by first | exact trivial | omega) ?_)
        exact gV_ret rfl (Or.inl rfl) ⟨rfl, Or.inr ⟨bad (by simp [mayk, h1, h2]), rfl⟩⟩
      · repeat (refine gV_s rfl (by first | exact trivial | omega) ?_)
        refine gV_i rfl (by unfold rng; omega) (fun h3 => ?_) (fun h3 => ?_)
        · repeat (refine gV_s rfl (by first | exact trivial | omega) ?_)
          refine gV_i rfl (by unfold rng; omega) (fun h5 => ?_) (fun h5 => ?_)
          · repeat (refine gV_s rfl (by first | exact trivial | omega) ?_)
            exact ih (by simp only [mayk, hm, Bool.true_and]; simp [h2, show ¬ (M 5 0 + 1 + M 8 l ≤ M 38 k) by omega])
          · repeat (refine gV_s rfl (by first | exact trivial | omega) ?_)
            exact gV_ret rfl (Or.inl rfl) ⟨rfl, Or.inr ⟨bad (by simp [mayk, h1, h3, show M 5 0 + 1 + M 8 l ≤ M 38 k by omega]), rfl⟩⟩
        · repeat (refine gV_s rfl (by first | exact trivial | omega) ?_)
          exact ih (by simp [mayk, hm, h2, h3])
    · repeat (refine gV_s rfl (by first | exact trivial | omega) ?_)
      exact ih (by simp [mayk, hm, h1])
theorem ok_mayReach {d : Nat} {M : Mem} {lo : Int → Int} {x b l : Int} (h : AI M lo x) (hb : rng b) (l0 : 0 ≤ l) (l4 : l < 4) : gOk mX5_mayReach (d + 1) [vR 5, vI b, vI l] M (yn (may M b l = true) M) := by
  have h4 := h.1.2.2.1
  have ks := h.2.2.2.2.2.2.2.1
  have k1 := ks 1 (by decide) (by decide)
  have k2 := ks 2 (by decide) (by decide)
  have k3 := ks 3 (by decide) (by decide)
  have n1 := ct_nn (fun j => decide (M 34 j = 1)) (M 4 0).toNat
  have n2 := ct_nn (fun j => decide (M 34 j = 2)) (M 4 0).toNat
  have n3 := ct_nn (fun j => decide (M 34 j = 3)) (M 4 0).toNat
  refine gOk_of mX5_mayReach_ok (by simp) (Nat.le_of_ble_eq_true rfl) ?_
  repeat (refine gV_s rfl (by first | exact trivial | omega) ?_)
  refine gV_cV (ok_underway (M := M) (by unfold rng; omega)) mX2_isAnyUnderway_ok sX5_X2_isAnyUnderway rfl rfl rfl rfl rfl rfl ?_
  rintro r M' ⟨rfl, ⟨h2, rfl⟩ | ⟨h2, rfl⟩⟩
  · refine gV_in rfl (by unfold rng; omega) (by omega) ?_
    repeat (refine gV_s rfl (by first | exact trivial | omega) ?_)
    exact may_loop h hb l0 l4 (M' 4 0).toNat 0 (by omega) rfl
  · refine gV_it rfl (by unfold rng; omega) rfl ?_
    repeat (refine gV_s rfl (by first | exact trivial | omega) ?_)
    refine gV_ret rfl (Or.inr rfl) ⟨rfl, Or.inl ⟨mayk_all (fun i i0 i1 => ?_), rfl⟩⟩
    have a1 := ct_zero (p := fun j => decide (M' 34 j = 1)) (n := (M' 4 0).toNat) (by omega) i i0 i1
    have a2 := ct_zero (p := fun j => decide (M' 34 j = 2)) (n := (M' 4 0).toNat) (by omega) i i0 i1
    simp at a1 a2
    exact ⟨a1, a2⟩
/-! letting go -/
theorem Ex.enqH {X : List Nat} {M S : Mem} (h : Ex X M S) (hX : ∀ r ∈ X, r = 19 ∨ r = 20 ∨ r = 21 ∨ r = 23) {i l : Int} : Ex X (aEnqH M i l) (aEnqH S i l) := by
  have k : ∀ r, r ≠ 19 → r ≠ 20 → r ≠ 21 → r ≠ 23 → r ∉ X := fun r a b c d hq => by have := hX r hq; omega
  unfold aEnqH aEnq
  rw [h 17 (k _ (by decide) (by decide) (by decide) (by decide)), h 22 (k _ (by decide) (by decide) (by decide) (by decide)), h 33 (k _ (by decide) (by decide) (by decide) (by decide))]
  exact Ex.w (Ex.turn (Ex.w (Ex.w (Ex.w h rfl rfl) rfl rfl) rfl rfl) (k _ (by decide) (by decide) (by decide) (by decide)) (k _ (by decide) (by decide) (by decide) (by decide)) rfl) rfl rfl
theorem Ex.lets {X : List Nat} {M S : Mem} (h : Ex X M S) (hX : ∀ r ∈ X, r = 19 ∨ r = 20 ∨ r = 21 ∨ r = 23) {b l : Int} : ∀ k, Ex X (aLets M b l k) (aLets S b l k)
  | 0 => h
  | k + 1 => by
    have ih := Ex.lets h hX (b := b) (l := l) k
    have k : ∀ r, r ≠ 19 → r ≠ 20 → r ≠ 21 → r ≠ 23 → r ∉ X := fun r a b c d hq => by have := hX r hq; omega
    unfold aLets
    dsimp only
    rw [ih 34 (k _ (by decide) (by decide) (by decide) (by decide)), ih 33 (k _ (by decide) (by decide) (by decide) (by decide))]
    split
    · exact Ex.enqH ih hX
    · exact ih
theorem aEnqH_22 (S : Mem) (i : Int) {l : Int} (hl : l < 4) : aEnqH S i l 22 = up1 (S 22) (S 33 i) (S 22 (S 33 i) - 1) := by
  unfold aEnqH
  rw [mw_rs, aEnq_o _ _ _ (by decide) (by decide) (by decide) (by decide) (by omega)]
theorem aLets_22 (S : Mem) (b : Int) {l : Int} (hl : l < 4) {j : Int} (hj : j ≠ b) : ∀ k, aLets S b l k 22 j = S 22 j
  | 0 => rfl
  | k + 1 => by
    unfold aLets
    dsimp only
    split
    · rename_i hc
      rw [aEnqH_22 _ _ hl, hc.2, up1_n _ _ hj, aLets_22 S b hl hj k]
    · exact aLets_22 S b hl hj k
/-- behind it the bucket's count is 0 -/
theorem lets_22 {S : Mem} {lo : Int → Int} {x b l : Int} (h : AI S lo x) (hu : S 9 l = 1) (b0 : 0 ≤ b) (b8 : b < 8) : aLets S b l (S 4 0).toNat 22 b = 0 := by
  obtain ⟨l0, lL, l4⟩ := AI_up h hu
  have h4 := h.1.2.2.1
  have h1 := AI_lets (b := b) h hu (S 4 0).toNat (by omega)
  have kh := h1.2.2.2.2.2.2.2.2.1 b b0 b8
  have e4 : aLets S b l (S 4 0).toNat 4 = S 4 := aLets_o S b l (by decide) (by decide) (by decide) (by decide) (by decide) (by omega) l4 _
  have e33 : aLets S b l (S 4 0).toNat 33 = S 33 := aLets_o S b l (by decide) (by decide) (by decide) (by decide) (by decide) (by omega) l4 _
  rw [kh, e4, e33]
  refine ct_none (fun i i0 i1 => ?_)
  have := lets_free (b := b) l4 h4.1 i i0 (by omega)
  simp only [decide_eq_false_iff_not]
  exact fun q => this q.1 q.2
theorem rel_loop {d : Nat} {S M1 : Mem} {lo : Int → Int} {x b l hd : Int} {P : PV → Mem → Prop} (h : AI S lo x) (hE1 : Ex [19, 20, 21, 23] M1 S) (hu : S 9 l = 1) (b0 : 0 ≤ b) (b8 : b < 8) (hP : P (vI hd) (aLets M1 b l (S 4 0).toNat)) :
    ∀ (n k : Nat) (Mk : Mem), (k : Int) + n = S 4 0 → Ex [22] Mk (aLets M1 b l k) → (∀ j, j ≠ b → Mk 22 j = M1 22 j) →
      gV mX5_release (d + 2) P 54 [vR 5, vI b, vI l, vI hd, vI k] [vI (S 4 0), vI k] Mk
  | 0, k, Mk, hk, hE, h22 => by
    obtain ⟨l0, lL, l4⟩ := AI_up h hu
    have h4 := h.1.2.2.1
    have e : k = (S 4 0).toNat := by omega
    refine gV_it rfl (by unfold rng; omega) (by omega) ?_
    repeat (refine gV_s rfl (by first | exact trivial | omega) ?_)
    refine gV_ret rfl trivial ?_
    have hm : mw Mk 22 b 0 = aLets M1 b l (S 4 0).toNat := by
      refine mem_ext (fun r => ?_)
      by_cases a : r = 22
      · subst a
        rw [mw_rs]
        funext j
        rw [up1_e]
        split
        · rename_i q
          subst q
          rw [Ex.lets hE1 (by simp) _ 22 (by decide)]
          exact (lets_22 h hu b0 b8).symm
        · rename_i q
          rw [h22 j q, aLets_22 M1 b l4 q]
      · rw [mw_rn _ _ _ a, hE r (by simp [a]), e]
    rw [hm]
    exact hP
  | n + 1, k, Mk, hk, hE, h22 => by
    obtain ⟨l0, lL, l4⟩ := AI_up h hu
    have h4 := h.1.2.2.1
    have hS := AI_lets (b := b) h hu k (by omega)
    have hEE := Ex.lets hE1 (by simp) (b := b) (l := l) k
    have eS : ∀ r, r ≠ 22 → r ≠ 19 → r ≠ 20 → r ≠ 21 → r ≠ 23 → Mk r = aLets S b l k r := fun r a1 a2 a3 a4 a5 => by
      rw [hE r (by simp [a1]), hEE r (by simp [a2, a3, a4, a5])]
    have eSo : ∀ r, r ≠ 22 → r ≠ 17 → r ≠ 34 → r ≠ 35 → r ≠ 41 → (r < 11 ∨ 15 ≤ r) → aLets S b l k r = S r := fun r a1 a2 a3 a4 a5 a6 => aLets_o S b l a1 a2 a3 a4 a5 a6 l4 k
    have hT := hS.2.2.2.2.2.2.1 k
    have hT2 := h.2.2.2.2.2.2.1 k
    have e4 : Mk 4 0 = S 4 0 := by rw [eS 4 (by decide) (by decide) (by decide) (by decide) (by decide), eSo 4 (by decide) (by decide) (by decide) (by decide) (by decide) (by omega)]
    have e33 : Mk 33 = S 33 := by rw [eS 33 (by decide) (by decide) (by decide) (by decide) (by decide), eSo 33 (by decide) (by decide) (by decide) (by decide) (by decide) (by omega)]
    have e34 : Mk 34 = aLets S b l k 34 := eS 34 (by decide) (by decide) (by decide) (by decide) (by decide)
    have e34' : Mk 34 = aLets M1 b l k 34 := hE 34 (by decide)
    have e33' : Mk 33 = aLets M1 b l k 33 := hE 33 (by decide)
    have step : aLets M1 b l (k + 1) = if aLets M1 b l k 34 k = 0 ∧ aLets M1 b l k 33 k = b then aEnqH (aLets M1 b l k) k l else aLets M1 b l k := rfl
    have ih := fun Mk' hE' h22' => rel_loop (d := d) h hE1 hu b0 b8 hP n (k + 1) Mk' (by push_cast; omega) hE' h22'
    rw [step, ← e34', ← e33'] at ih
    have hr34 : 0 ≤ Mk 34 k ∧ Mk 34 k ≤ 5 := by rw [e34]; exact hT.2.2.2.1
    have hr33 : 0 ≤ Mk 33 k ∧ Mk 33 k < 8 := by rw [e33]; exact hT2.2.2.1
    refine gV_in rfl (by unfold rng; omega) (by omega) ?_
    repeat (refine gV_s rfl (by first | exact trivial | omega) ?_)
    refine gV_i rfl (by unfold rng; omega) (fun h1 => ?_) (fun h1 => ?_)
    · repeat (refine gV_s rfl (by first | exact trivial | omega) ?_)
      refine gV_i rfl (by unfold rng; omega) (fun h2 => ?_) (fun h2 => ?_)
      · rw [if_pos ⟨h1, h2⟩] at ih
        have e17 : Mk 17 l = aLets S b l k 17 l := by rw [eS 17 (by decide) (by decide) (by decide) (by decide) (by decide)]
        have hq := (hS.2.2.2.2.2.2.2.2.2.2.2.1 l l0 l4).1
        have hkl := (hS.2.2.2.2.2.2.2.2.2.2.1 l l0 l4).1
        have hlk : aLets S b l k 35 k = -6 := by
          rcases hS.2.2.2.2.2.2.2.2.2.2.2.2.1 k (by omega) (by rw [eSo 4 (by decide) (by decide) (by decide) (by decide) (by decide) (by omega)]; omega) with q | q
          · exact q.1
          · rw [← e34, h1] at q; omega
        have hlt : ct (fun j => decide (aLets S b l k 35 j = l)) (aLets S b l k 4 0).toNat < ct (fun _ => true) (aLets S b l k 4 0).toNat := ct_lt (i := k) (fun _ _ _ _ => rfl) (by omega) (by rw [eSo 4 (by decide) (by decide) (by decide) (by decide) (by decide) (by omega)]; omega) (by rw [hlk]; simp; omega) rfl
        have hnn := ct_nn (fun _ => true) (aLets S b l k 4 0).toNat
        rw [eSo 4 (by decide) (by decide) (by decide) (by decide) (by decide) (by omega)] at hlt hnn hkl
        repeat (refine gV_s rfl (by first | exact trivial | omega) ?_)
        refine gV_cV (ok_enqueue (d := d) (P := fun r M' => r = none ∧ M' = aEnq Mk k l) (by omega) (by omega) l0 l4 (by omega) (by omega) hr34 ⟨rfl, rfl⟩) mX5_enqueue_ok sX5_X5_enqueue rfl rfl rfl rfl rfl rfl ?_
        rintro r M' ⟨rfl, rfl⟩
        repeat (refine gV_s rfl (by first | exact trivial | omega) ?_)
        have e4' : aEnq Mk k l 4 0 = S 4 0 := by rw [aEnq_o _ _ _ (by decide) (by decide) (by decide) (by decide) (by omega), e4]
        rw [e4']
        refine ih _ ?_ ?_
        · unfold aEnqH
          refine Ex.skip ?_ (by decide)
          unfold aEnq
          rw [hE 17 (by decide)]
          exact Ex.turn (Ex.w (Ex.w (Ex.w hE rfl rfl) rfl rfl) rfl rfl) (by decide) (by decide) rfl
        · intro j hj
          rw [aEnq_o _ _ _ (by decide) (by decide) (by decide) (by decide) (by omega)]
          exact h22 j hj
      · rw [if_neg (fun q => h2 q.2)] at ih
        repeat (refine gV_s rfl (by first | exact trivial | omega) ?_)
        rw [e4]
        exact ih _ hE h22
    · rw [if_neg (fun q => h1 q.1)] at ih
      repeat (refine gV_s rfl (by first | exact trivial | omega) ?_)
      rw [e4]
      exact ih _ hE h22
theorem ok_release {d : Nat} {S M : Mem} {lo : Int → Int} {x b : Int} {P : PV → Mem → Prop} (h : AI S lo x) (hE : Ex [19, 20, 21, 23] M S) (b0 : 0 ≤ b) (b8 : b < 8) (hon : M 19 b = -6 ∨ S 9 (M 19 b) = 1) (hP : P (vI (M 22 b)) (aRel M b)) : gOk mX5_release (d + 2) [vR 5, vI b] M P := by
  have h4 := h.1.2.2.1
  have hkh := h.2.2.2.2.2.2.2.2.1 b b0 b8
  have hnn := ct_nn (fun j => decide (S 34 j = 0 ∧ S 33 j = b)) (S 4 0).toNat
  have e22 : M 22 = S 22 := hE 22 (by decide)
  have hon2 : M 19 b = -6 ∨ (0 ≤ M 19 b ∧ M 19 b < 4) := by
    rcases hon with q | q
    · exact Or.inl q
    · have := AI_up h q; exact Or.inr ⟨this.1, this.2.2⟩
  have hE1 : Ex [19, 20, 21, 23] (mw M 21 b 0) S := Ex.skip1 hE (by decide)
  have hrh : rng (M 22 b) := by rw [e22]; unfold rng; omega
  refine gOk_of mX5_release_ok (by simp) (Nat.le_of_ble_eq_true rfl) ?_
  unfold aRel at hP
  repeat (refine gV_s rfl (by first | exact trivial | omega) ?_)
  refine gV_i rfl (by unfold rng; omega) (fun h1 => ?_) (fun h1 => ?_)
  · rw [if_pos h1] at hP
    repeat (refine gV_s rfl (by first | exact trivial | omega) ?_)
    exact gV_ret rfl trivial hP
  · rw [if_neg h1] at hP
    have hu : S 9 (M 19 b) = 1 := by rcases hon with q | q; exact absurd q h1; exact q
    repeat (refine gV_s rfl (by first | exact trivial | omega) ?_)
    refine gV_i rfl hrh (fun h2 => ?_) (fun h2 => ?_)
    · rw [aLets_none] at hP
      · repeat (refine gV_s rfl (by first | exact trivial | omega) ?_)
        exact gV_ret rfl trivial hP
      · intro i i0 i1 q
        rw [e22, hkh] at h2
        have e4 : M 4 0 = S 4 0 := by rw [hE 4 (by decide)]
        have := ct_zero h2 i i0 (by omega)
        rw [mw_rn _ _ _ (by decide), mw_rn _ _ _ (by decide), hE 34 (by decide), hE 33 (by decide)] at q
        simp at this
        exact this q.1 q.2
    · have e4 : M 4 0 = S 4 0 := by rw [hE 4 (by decide)]
      rw [e4] at hP
      repeat (refine gV_s rfl (by first | exact trivial | omega) ?_)
      have := rel_loop (d := d) (P := P) (hd := M 22 b) h hE1 hu b0 b8 hP (S 4 0).toNat 0 (mw M 21 b 0) (by omega) Ex.rf (fun _ _ => rfl)
      have e4' : mw M 21 b 0 4 0 = S 4 0 := by rw [mw_rn _ _ _ (by decide), e4]
      rw [e4']
      exact this
