/-! The reference: evenness, the next plan. -/
def uS (M : Mem) : Int → Int := fun l => if M 50 l = 1 then M 48 l else 0
def uL (M : Mem) : Int → Int := fun l => if M 50 l = 1 then M 71 l else 0
def evP (M : Mem) (k l : Int) : Prop := M 50 l = 1 → M 71 l * sm (uS M) (M 47 1).toNat * 100 ≤ (100 + k) * sm (uL M) (M 47 1).toNat * M 48 l
def EC (M : Mem) : Prop := (0 ≤ M 47 1 ∧ M 47 1 ≤ 4) ∧ (∀ l, M 50 l = 0 ∨ M 50 l = 1) ∧ (∀ l, 0 ≤ M 48 l ∧ M 48 l ≤ 8) ∧ (∀ l : Int, 0 ≤ l → l < M 47 1 → 0 ≤ M 71 l ∧ M 71 l ≤ 1600)
theorem ev_bd {M : Mem} (h : EC M) : (0 ≤ sm (uS M) (M 47 1).toNat ∧ sm (uS M) (M 47 1).toNat ≤ 32) ∧ (0 ≤ sm (uL M) (M 47 1).toNat ∧ sm (uL M) (M 47 1).toNat ≤ 6400) := by
  obtain ⟨hL, hu, hs, hl⟩ := h
  have a := sm_bd (g := uS M) (c := 8) (n := (M 47 1).toNat) (fun i _ _ => by have := hs i; unfold uS; split <;> omega)
  have b := sm_bd (g := uL M) (c := 1600) (n := (M 47 1).toNat) (fun i a c => by have := hl i a (by omega); unfold uL; split <;> omega)
  omega
theorem ev2_loop {d : Nat} {M : Mem} {k : Int} (h : EC M) (hk : 0 ≤ k ∧ k ≤ 1000) : ∀ (n j : Nat) (e : Int), (j : Int) + n = M 47 1 → ((e = 1 ∧ ∀ l : Int, 0 ≤ l → l < j → evP M k l) ∨ (e = 0 ∧ ¬ ∀ l : Int, 0 ≤ l → l < j → evP M k l)) →
    gV mX7_isEven d (yn (∀ l : Int, 0 ≤ l → l < M 47 1 → evP M k l) M) 82 [vR 47, vI k, vI (sm (uS M) (M 47 1).toNat), vI (sm (uL M) (M 47 1).toNat), vI e, vI j] [vI (M 47 1), vI j] M
  | 0, j, e, hj, he => by
    have hL := h.1
    refine gV_it rfl (by unfold rng; omega) (by omega) ?_
    repeat (refine gV_s rfl (by first | exact trivial | omega) ?_)
    have ej : (j : Int) = M 47 1 := by omega
    rw [ej] at he
    rcases he with ⟨rfl, he⟩ | ⟨rfl, he⟩
    · exact gV_ret rfl (Or.inr rfl) ⟨rfl, Or.inl ⟨he, rfl⟩⟩
    · exact gV_ret rfl (Or.inl rfl) ⟨rfl, Or.inr ⟨he, rfl⟩⟩
  | n + 1, j, e, hj, he => by
    obtain ⟨hL, hu, hs, hl⟩ := id h
    obtain ⟨⟨a0, a1⟩, b0, b1⟩ := ev_bd h
    have huj := hu j
    have hsj := hs j
    have hlj := hl j (by omega) (by omega)
    have p1 := mul_bd hlj.1 hlj.2 a0 a1
    have p2 := mul_bd (x := 100 + k) (a := 1100) (by omega) (by omega) b0 b1
    have p3 := mul_bd p2.1 p2.2 hsj.1 hsj.2
    have e01 : e = 0 ∨ e = 1 := by rcases he with q | q; exact Or.inr q.1; exact Or.inl q.1
    have nxt : ∀ e' : Int, ((e' = 1 ∧ ∀ l : Int, 0 ≤ l → l < (j + 1 : Nat) → evP M k l) ∨ (e' = 0 ∧ ¬ ∀ l : Int, 0 ≤ l → l < (j + 1 : Nat) → evP M k l)) → gV mX7_isEven d (yn (∀ l : Int, 0 ≤ l → l < M 47 1 → evP M k l) M) 142 [vR 47, vI k, vI (sm (uS M) (M 47 1).toNat), vI (sm (uL M) (M 47 1).toNat), vI e, vI j] [vI e'] M := by
      intro e' he'
      repeat (refine gV_s rfl (by first | exact trivial | omega) ?_)
      exact ev2_loop h hk n (j + 1) e' (by push_cast; omega) he'
    have yes : e = 1 → evP M k j → ∀ l : Int, 0 ≤ l → l < (j + 1 : Nat) → evP M k l := fun q1 q2 l l0 l1 => by
      by_cases c : l = j
      · subst c; exact q2
      · rcases he with q | q
        · exact q.2 l l0 (by push_cast at l1; omega)
        · omega
    refine gV_in rfl (by unfold rng; omega) (by omega) ?_
    repeat (refine gV_s rfl (by first | exact trivial | omega) ?_)
    refine gV_i rfl (by unfold rng; omega) (fun h1 => ?_) (fun h1 => ?_)
    · refine gV_s rfl trivial ?_
      refine nxt 0 (Or.inr ⟨rfl, fun q => ?_⟩)
      rcases he with w | w
      · omega
      · exact w.2 (fun l l0 l1 => q l l0 (by push_cast; omega))
    · have e1 : e = 1 := by omega
      repeat (refine gV_s rfl (by first | exact trivial | omega) ?_)
      refine gV_i rfl (by unfold rng; omega) (fun h2 => ?_) (fun h2 => ?_)
      · refine gV_s rfl trivial (gV_s rfl trivial ?_)
        exact nxt 1 (Or.inl ⟨rfl, yes e1 (fun q => by omega)⟩)
      · have u1 : M 50 j = 1 := by omega
        have hr : rng (M 71 j) := by unfold rng; omega
        have hr2 : rng (sm (uS M) (M 47 1).toNat) := by unfold rng; omega
        have hr3 : rng (sm (uL M) (M 47 1).toNat) := by unfold rng; omega
        have hr4 : rng k := by unfold rng; omega
        have hr5 : rng (M 48 j) := by unfold rng; omega
        repeat (refine gV_s rfl (by first | exact trivial | omega | assumption) ?_)
        refine gV_ldc rfl rfl ?_
        repeat (refine gV_s rfl (by first | exact trivial | omega | assumption) ?_)
        refine gV_ldc rfl rfl ?_
        repeat (refine gV_s rfl (by first | exact trivial | omega | assumption) ?_)
        refine gV_lcmp rfl (by unfold rng64; omega) (by unfold rng64; omega) ?_
        by_cases c : M 71 j * sm (uS M) (M 47 1).toNat * 100 ≤ (100 + k) * sm (uL M) (M 47 1).toNat * M 48 j
        · rw [if_neg (by omega)]
          refine gV_in rfl (by unfold rng; split <;> omega) (by split <;> omega) ?_
          refine gV_s rfl trivial (gV_s rfl trivial ?_)
          exact nxt 1 (Or.inl ⟨rfl, yes e1 (fun _ => c)⟩)
        · rw [if_pos (by omega)]
          refine gV_it rfl (by unfold rng; omega) (by omega) ?_
          refine gV_s rfl trivial ?_
          exact nxt 0 (Or.inr ⟨rfl, fun q => c (q j (by omega) (by push_cast; omega) u1)⟩)
theorem ev1_loop {d : Nat} {M : Mem} {k : Int} (h : EC M) (hk : 0 ≤ k ∧ k ≤ 1000) : ∀ (n j : Nat), (j : Int) + n = M 47 1 →
    gV mX7_isEven d (yn (∀ l : Int, 0 ≤ l → l < M 47 1 → evP M k l) M) 13 [vR 47, vI k, vI (sm (uS M) j), vI (sm (uL M) j), vI j, none] [vI (M 47 1), vI j] M
  | 0, j, hj => by
    have hL := h.1
    have e : j = (M 47 1).toNat := by omega
    subst e
    refine gV_it rfl (by unfold rng; omega) (by omega) ?_
    repeat (refine gV_s rfl (by first | exact trivial | omega) ?_)
    exact ev2_loop h hk (M 47 1).toNat 0 1 (by omega) (Or.inl ⟨rfl, fun l a b => by omega⟩)
  | n + 1, j, hj => by
    obtain ⟨hL, hu, hs, hl⟩ := id h
    have huj := hu j
    have ih := ev1_loop (d := d) h hk n (j + 1) (by push_cast; omega)
    rw [sm_s, sm_s] at ih
    refine gV_in rfl (by unfold rng; omega) (by omega) ?_
    repeat (refine gV_s rfl (by first | exact trivial | omega) ?_)
    refine gV_i rfl (by unfold rng; omega) (fun h1 => ?_) (fun h1 => ?_)
    · rw [show uS M j = 0 by unfold uS; rw [if_neg (by omega)], show uL M j = 0 by unfold uL; rw [if_neg (by omega)]] at ih
      repeat (refine gV_s rfl (by first | exact trivial | omega) ?_)
      refine gV_it rfl (by unfold rng; omega) h1 ?_
      repeat (refine gV_s rfl (by first | exact trivial | omega) ?_)
      exact ih
    · rw [show uS M j = M 48 j by unfold uS; rw [if_pos (by omega)], show uL M j = M 71 j by unfold uL; rw [if_pos (by omega)]] at ih
      repeat (refine gV_s rfl (by first | exact trivial | omega) ?_)
      refine gV_in rfl (by unfold rng; omega) h1 ?_
      repeat (refine gV_s rfl (by first | exact trivial | omega) ?_)
      exact ih
theorem ok_isEvenM {d : Nat} {M : Mem} {k : Int} (h : EC M) (hk : 0 ≤ k ∧ k ≤ 1000) : gOk mX7_isEven d [vR 47, vI k] M (yn (∀ l : Int, 0 ≤ l → l < M 47 1 → evP M k l) M) := by
  have hL := h.1
  refine gOk_of mX7_isEven_ok (by simp) (Nat.le_of_ble_eq_true rfl) ?_
  repeat (refine gV_s rfl (by first | exact trivial | omega) ?_)
  exact ev1_loop h hk (M 47 1).toNat 0 (by omega)
/-! the next link that is up -/
def nuP (M : Mem) (a v : Int) : Prop := (v = -6 ∧ ∀ l, a ≤ l → l < M 47 1 → M 50 l ≠ 1) ∨ (a ≤ v ∧ v < M 47 1 ∧ M 50 v = 1 ∧ ∀ l, a ≤ l → l < v → M 50 l ≠ 1)
theorem nu_loop {d : Nat} {M : Mem} {a : Int} (hL : 0 ≤ M 47 1 ∧ M 47 1 ≤ 4) (hu : ∀ l, M 50 l = 0 ∨ M 50 l = 1) (a0 : 0 ≤ a) : ∀ (n : Nat) (l : Int), a ≤ l → l ≤ 4 → n = (M 47 1 - l).toNat → (∀ j, a ≤ j → j < l → M 50 j ≠ 1) →
    gV mX7_nextUp d (fun r M' => M' = M ∧ ∃ v, r = vI v ∧ nuP M a v) 7 [vR 47, vI a, vI l] [vI (M 47 1), vI l] M
  | 0, l, h1, h2, h3, h4 => by
    refine gV_it rfl (by unfold rng; omega) (by omega) ?_
    repeat (refine gV_s rfl (by first | exact trivial | omega) ?_)
    refine gV_it rfl (by unfold rng; omega) (by omega) ?_
    repeat (refine gV_s rfl (by first | exact trivial | omega) ?_)
    exact gV_ret rfl trivial ⟨rfl, -6, rfl, Or.inl ⟨rfl, fun j q1 q2 => h4 j q1 (by omega)⟩⟩
  | n + 1, l, h1, h2, h3, h4 => by
    have hul := hu l
    refine gV_in rfl (by unfold rng; omega) (by omega) ?_
    repeat (refine gV_s rfl (by first | exact trivial | omega) ?_)
    refine gV_i rfl (by unfold rng; omega) (fun h5 => ?_) (fun h5 => ?_)
    · repeat (refine gV_s rfl (by first | exact trivial | omega) ?_)
      refine nu_loop hL hu a0 n (l + 1) (by omega) (by omega) (by omega) (fun j q1 q2 => ?_)
      by_cases e : j = l
      · subst e; omega
      · exact h4 j q1 (by omega)
    · repeat (refine gV_s rfl (by first | exact trivial | omega) ?_)
      refine gV_in rfl (by unfold rng; omega) (by omega) ?_
      repeat (refine gV_s rfl (by first | exact trivial | omega) ?_)
      exact gV_ret rfl trivial ⟨rfl, l, rfl, Or.inr ⟨h1, by omega, by omega, h4⟩⟩
theorem ok_nextUp {d : Nat} {M : Mem} {a : Int} (hL : 0 ≤ M 47 1 ∧ M 47 1 ≤ 4) (hu : ∀ l, M 50 l = 0 ∨ M 50 l = 1) (a0 : 0 ≤ a) (a4 : a ≤ 4) : gOk mX7_nextUp d [vR 47, vI a] M (fun r M' => M' = M ∧ ∃ v, r = vI v ∧ nuP M a v) := by
  refine gOk_of mX7_nextUp_ok (by simp) (Nat.le_of_ble_eq_true rfl) ?_
  repeat (refine gV_s rfl (by first | exact trivial | omega) ?_)
  exact nu_loop hL hu a0 (M 47 1 - a).toNat a (by omega) a4 rfl (fun j q1 q2 => by omega)
/-! even -/
theorem mev_loop {d : Nat} {S M0 : Mem} {k B : Int} {P : PV → Mem → Prop} (h : NI S) (hB : B ≤ 2000000000) (hP : ∀ (M' : Mem) (z : Int), RM S M' B → Fr M0 M' → (∀ l : Int, 0 ≤ l → l < S 1 0 → M' 71 l = load S l) → gV mX7_even (d + 3) P 51 [vR 47, vI k, vI z] [] M') :
    ∀ (n j : Nat) (M : Mem), (j : Int) + n = S 1 0 → RM S M B → Fr M0 M → (∀ l : Int, 0 ≤ l → l < j → M 71 l = load S l) → gV mX7_even (d + 3) P 31 [vR 47, vI k, vI j] [vI (S 1 0), vI j] M := by
  have hL := h.1.1
  intro n
  induction n with
  | zero =>
    intro j M hj hR hF hl
    refine gV_it rfl (by unfold rng; omega) (by omega) ?_
    exact hP M _ hR hF (fun l a b => hl l a (by omega))
  | succ n ih =>
    intro j M hj hR hF hl
    refine gV_in rfl (by unfold rng; omega) (by omega) ?_
    repeat (refine gV_s rfl (by first | exact trivial | omega) ?_)
    refine gV_cV (ok_mLoad (d := d) (M := M) (l := j) (P := fun r M2 => r = vI (load S j) ∧ M2 = M) h hR hB (by unfold rng; omega) ⟨rfl, rfl⟩) mX7_load_ok sX7_X7_load rfl rfl rfl rfl rfl rfl ?_
    rintro r M2 ⟨rfl, rfl⟩
    have hR2 : RM S (mw M2 71 j (load S j)) B := RM_M hR (fun r a b => mw_rn _ _ _ (by omega))
    repeat (refine gV_s rfl (by first | exact trivial | omega) ?_)
    rw [hR2.s1]
    refine ih (j + 1) _ (by push_cast; omega) hR2 (Fr.w hF (by decide)) (fun l a b => ?_)
    rw [mw_rs, up1_e]
    split
    · rename_i e; rw [e]
    · exact hl l a (by push_cast at b; omega)
theorem uS_eq {S M : Mem} {B : Int} (hR : RM S M B) : sm (uS M) (M 47 1).toNat = sA S := by
  unfold sA
  rw [hR.s1]
  exact sm_cong (fun j _ _ => by unfold uS upSp; rw [hR.e50, hR.e48])
theorem ok_mEven {d : Nat} {S M : Mem} {B k : Int} (h : NI S) (hk : rng k) (hR : RM S M B) (hB : B ≤ 2000000000) : gOk mX7_even (d + 3) [vR 47, vI k] M (fun r M' => RM S M' B ∧ Fr M M' ∧ ∃ v, r = vI v ∧ evA S k v) := by
  have hMM := MR_of h hR hB
  have hL := h.1.1
  refine gOk_of mX7_even_ok (by simp) (Nat.le_of_ble_eq_true rfl) ?_
  repeat (refine gV_s rfl (by first | exact trivial | omega) ?_)
  refine gV_cS (ok_in (d := d + 2) (M := M) hk (by unfold rng; omega) (by unfold rng; omega)) mX7_in_ok sX7_X7_in rfl rfl rfl rfl ?_
  rintro r M' ⟨rfl, ⟨h1, rfl⟩ | ⟨h1, rfl⟩⟩
  · refine gV_in rfl (by unfold rng; omega) (by omega) ?_
    repeat (refine gV_s rfl (by first | exact trivial | omega) ?_)
    refine gV_cV (ok_noneUp (d := d + 2) (M := M') hMM) mX7_noneUp_ok sX7_X7_noneUp rfl rfl rfl rfl rfl rfl ?_
    rw [hR.s1, hR.e50]
    rintro r M2 ⟨rfl, ⟨h2, rfl⟩ | ⟨h2, rfl⟩⟩
    · refine gV_in rfl (by unfold rng; omega) (by omega) ?_
      repeat (refine gV_s rfl (by first | exact trivial | omega) ?_)
      refine gV_ret rfl trivial ⟨hR, Fr.rf, -3, rfl, Or.inr (Or.inl ⟨h1, fun ⟨l, a, b, c⟩ => ?_, rfl⟩)⟩
      have := h2 l a b
      omega
    · have hu : anyUp S := Classical.byContradiction (fun q => h2 (fun l a b => by
        rcases h.2.1.2.1 l with w | w
        · exact w
        · exact absurd ⟨l, a, b, w.1⟩ q))
      refine gV_it rfl (by unfold rng; omega) rfl ?_
      repeat (refine gV_s rfl (by first | exact trivial | omega) ?_)
      rw [hR.s1]
      refine mev_loop (d := d) (S := S) (M0 := M2) (B := B) h hB (fun M3 z hR3 hF3 hl3 => ?_) (S 1 0).toNat 0 M2 (by omega) hR Fr.rf (fun l a b => by omega)
      have e1 := hR3.s1
      have hw := sW_bd h
      have hld : ∀ l, 0 ≤ load S l ∧ load S l ≤ 1600 := fun l => by
        rw [load_ldN h]
        have := ldN_le (w := rates S) (t := S 19) (l := l) (fun i _ _ => (rates_bd h i).1) 8 (by omega)
        have h2 : ldN (rates S) (S 19) l 8 ≤ sW S := this.2
        omega
      have hEC : EC M3 := by
        refine ⟨by rw [e1]; exact hL, fun l => ?_, fun l => ?_, fun l a b => ?_⟩
        · rw [hR3.e50]; have := h.2.1.2.1 l; omega
        · rw [hR3.e48]; have := h.2.1.2.2 l; omega
        · rw [hl3 l a (by omega)]; exact hld l
      have euL : sm (uL M3) (M3 47 1).toNat = sW S := by
        rw [← upLd_all h hu, e1]
        exact sm_cong (fun j a b => by unfold uL upLd; rw [hR3.e50, hl3 j a (by omega)])
      have hiff : (∀ l : Int, 0 ≤ l → l < M3 47 1 → evP M3 k l) ↔ Ev0 S k (S 19) := by
        unfold evP Ev0 evn wth
        rw [uS_eq hR3, euL, hR3.s1, hR3.e50, hR3.e48]
        constructor
        · intro q l a b c
          have := q l a b c
          rw [hl3 l a b, load_ldN h] at this
          exact this
        · intro q l a b c
          rw [hl3 l a b, load_ldN h]
          exact q l a b c
      repeat (refine gV_s rfl (by first | exact trivial | omega) ?_)
      refine gV_cV (ok_isEvenM (d := d + 2) (M := M3) hEC h1) mX7_isEven_ok sX7_X7_isEven rfl rfl rfl rfl rfl rfl ?_
      rintro r M4 ⟨rfl, ⟨h5, rfl⟩ | ⟨h5, rfl⟩⟩
      · refine gV_in rfl (by unfold rng; omega) (by omega) ?_
        repeat (refine gV_s rfl (by first | exact trivial | omega) ?_)
        exact gV_ret rfl trivial ⟨hR3, hF3, 1, rfl, Or.inr (Or.inr ⟨h1, hu, Or.inl ⟨hiff.mp h5, rfl⟩⟩)⟩
      · refine gV_it rfl (by unfold rng; omega) rfl ?_
        repeat (refine gV_s rfl (by first | exact trivial | omega) ?_)
        exact gV_ret rfl trivial ⟨hR3, hF3, 0, rfl, Or.inr (Or.inr ⟨h1, hu, Or.inr ⟨fun q => h5 (hiff.mpr q), rfl⟩⟩)⟩
  · refine gV_it rfl (by unfold rng; omega) rfl ?_
    repeat (refine gV_s rfl (by first | exact trivial | omega) ?_)
    exact gV_ret rfl trivial ⟨hR, Fr.rf, -2, rfl, Or.inl ⟨h1, rfl⟩⟩
