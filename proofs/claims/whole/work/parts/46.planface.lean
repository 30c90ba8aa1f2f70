/-! The class: even, least. -/
theorem Imp_E {E E' Q : (Int → Int) → Prop} {mv : (Int → Int) → Int} {F h F1 h1 : Int} {pl pl1 : Int → Int} (he : ∀ s, E s ↔ E' s) (a : Imp E Q mv F h pl F1 h1 pl1) : Imp E' Q mv F h pl F1 h1 pl1 := by
  rcases a with ⟨a1, a2, a3, a4⟩ | ⟨a1, a2, t, a3, a4, a5, a6, a7⟩
  · exact Or.inl ⟨a1, a2, a3, fun s hs hE => a4 s hs ((he s).mpr hE)⟩
  · exact Or.inr ⟨a1, a2, t, a3, (he t).mp a4, a5, a6, fun s hs hE => a7 s hs ((he s).mpr hE)⟩
theorem ldN_congw {w w' t : Int → Int} {l : Int} {n : Nat} (h : ∀ b : Int, 0 ≤ b → b < n → w b = w' b) : ldN w t l n = ldN w' t l n := sm_cong (fun j a b => by rw [h j a b])
def anyUp (S : Mem) : Prop := ∃ l, 0 ≤ l ∧ l < S 1 0 ∧ S 9 l = 1
def sA (S : Mem) : Int := sm (upSp S) (S 1 0).toNat
def sW (S : Mem) : Int := sm (rates S) 8
def Ev0 (S : Mem) (k : Int) : (Int → Int) → Prop := evn (sA S) (sW S) k (S 7) (S 9) (S 1 0) (rates S)
theorem load_ldN {S : Mem} {lo : Int → Int} {x : Int} (h : AI S lo x) (l : Int) : load S l = ldN (rates S) (S 19) l 8 := (load_eq h l).symm
theorem on_vld {S : Mem} {lo : Int → Int} (h : AI S lo (-1)) (hu : anyUp S) : vld (S 9) (S 1 0) (S 19) 8 := by
  obtain ⟨l, l0, l1, l2⟩ := hu
  intro b b0 b8
  have hon := h.2.2.2.1 (by decide) ⟨l, l2⟩ b b0 b8
  rcases (h.2.2.1 b).1 with q | ⟨q1, q2, q3 | q3⟩
  · exact absurd q hon
  · exact ⟨q1, q2, q3⟩
  · omega
theorem rates_bd {S : Mem} {lo : Int → Int} {x : Int} (h : AI S lo x) (b : Int) : 0 ≤ rates S b ∧ rates S b ≤ 1600 := by
  have hF := h.1.2.1
  have := sm_bd (g := rtB S b) (c := 100) (n := (S 3 0).toNat) (fun i a c => by
    have := h.2.2.2.2.2.1 i
    unfold rtB
    split <;> omega)
  unfold rates
  omega
theorem sW_bd {S : Mem} {lo : Int → Int} {x : Int} (h : AI S lo x) : 0 ≤ sW S ∧ sW S ≤ 1600 := by
  have hF := h.1.2.1
  have h1 := sm_bd (g := S 24) (c := 100) (n := (S 3 0).toNat) (fun i a c => by
    have := h.2.2.2.2.2.1 i
    omega)
  have h2 := ld_all (up := fun _ => 1) (w := S 24) (t := bkO S) (L := 8) (S 3 0).toNat (fun b b0 b1 => by
    have := bkO_in h b0 (by omega)
    exact ⟨this.1, by omega, rfl⟩)
  have e : sW S = sm (S 24) (S 3 0).toNat := by
    rw [← h2]
    unfold sW
    exact sm_cong (fun j _ _ => by rw [if_pos rfl]; rfl)
  omega
theorem sA_bd {S : Mem} {lo : Int → Int} {x : Int} (h : AI S lo x) : 0 ≤ sA S ∧ sA S ≤ 32 := by
  have hL := h.1.1
  have h1 := sm_bd (g := upSp S) (c := 8) (n := (S 1 0).toNat) (fun i a c => by
    have := h.2.1.2.2 i
    unfold upSp
    split <;> omega)
  unfold sA
  omega
theorem upLd_all {S : Mem} {lo : Int → Int} (h : AI S lo (-1)) (hu : anyUp S) : sm (upLd S) (S 1 0).toNat = sW S := by
  have hL := h.1.1
  have := ld_all (up := S 9) (w := rates S) (t := S 19) (L := (S 1 0).toNat) 8 (fun b b0 b1 => by
    have := on_vld h hu b b0 (by omega)
    exact ⟨this.1, by omega, this.2.2⟩)
  unfold sW
  rw [← this]
  exact sm_cong (fun j _ _ => by unfold upLd; rw [load_ldN h])
/-- answers of even -/
def evA (S : Mem) (k v : Int) : Prop := (¬ (0 ≤ k ∧ k ≤ 1000) ∧ v = -2) ∨ ((0 ≤ k ∧ k ≤ 1000) ∧ ¬ anyUp S ∧ v = -3) ∨ ((0 ≤ k ∧ k ≤ 1000) ∧ anyUp S ∧ ((Ev0 S k (S 19) ∧ v = 1) ∨ (¬ Ev0 S k (S 19) ∧ v = 0)))
theorem evA_fun {S : Mem} {k v v' : Int} (h : evA S k v) (h' : evA S k v') : v = v' := by
  rcases h with ⟨a, b⟩ | ⟨a, b, c⟩ | ⟨a, b, ⟨c, e⟩ | ⟨c, e⟩⟩ <;> rcases h' with ⟨a', b'⟩ | ⟨a', b', c'⟩ | ⟨a', b', ⟨c', e'⟩ | ⟨c', e'⟩⟩ <;> first | omega | exact absurd a' a | exact absurd a a' | exact absurd b' b | exact absurd b b' | exact absurd c c' | exact absurd c' c
/-- what a look at evenness leaves -/
def evM (S M' : Mem) : Prop := (∀ r, r ≠ 6 → M' r = S r) ∧ M' 6 0 = S 6 0
theorem evC_loop {d : Nat} {S M : Mem} {k : Int} (h : NI S) (hu : anyUp S) (hk : 0 ≤ k ∧ k ≤ 1000) (hM : MsP S M k (S 1 0).toNat) : ∀ (n j : Nat), (j : Int) + n = S 1 0 → (∀ l : Int, 0 ≤ l → l < j → S 9 l = 1 → wth (sA S) (sW S) k (S 7) l (ldN (rates S) (S 19) l 8)) →
    gV mX4_isEven (d + 2) (fun r M' => M' = M ∧ ((Ev0 S k (S 19) ∧ r = vI 1) ∨ (¬ Ev0 S k (S 19) ∧ r = vI 0))) 15 [vR 6, vI k, vI j] [vI (S 1 0), vI j] M
  | 0, j, hj, hn => by
    have hL := h.1.1
    refine gV_it rfl (by unfold rng; omega) (by omega) ?_
    repeat (refine gV_s rfl (by first | exact trivial | omega) ?_)
    exact gV_ret rfl (Or.inr rfl) ⟨rfl, Or.inl ⟨fun l l0 lL hu => hn l l0 (by omega) hu, rfl⟩⟩
  | n + 1, j, hj, hn => by
    have hL := h.1.1
    obtain ⟨m1, m2, m3, m4, m5⟩ := id hM
    rw [upLd_all h hu] at m3
    have hul := h.2.1.2.1 j
    have e9 : M 9 j = S 9 j := by rw [m1 9 (by decide)]
    have e1 : M 1 0 = S 1 0 := by rw [m1 1 (by decide)]
    have hw := sW_bd h
    have hA := sA_bd h
    have nxt : (S 9 j = 1 → wth (sA S) (sW S) k (S 7) j (ldN (rates S) (S 19) j 8)) → gV mX4_isEven (d + 2) (fun r M' => M' = M ∧ ((Ev0 S k (S 19) ∧ r = vI 1) ∨ (¬ Ev0 S k (S 19) ∧ r = vI 0))) 45 [vR 6, vI k, vI j] [] M := by
      intro hq
      repeat (refine gV_s rfl (by first | exact trivial | omega) ?_)
      rw [e1]
      refine evC_loop h hu hk hM n (j + 1) (by push_cast; omega) (fun l l0 l1 hul => ?_)
      by_cases e : l = j
      · subst e; exact hq hul
      · exact hn l l0 (by push_cast at l1; omega) hul
    refine gV_in rfl (by unfold rng; omega) (by omega) ?_
    repeat (refine gV_s rfl (by first | exact trivial | omega) ?_)
    rw [e9]
    refine gV_i rfl (by unfold rng; omega) (fun h1 => nxt (fun q => by omega)) (fun h1 => ?_)
    have hA2 : AI M (fun _ => S 5 0) (-1) := AI_pl h (fun r a b => m1 r a) (by rw [m5 0 (by decide) (by decide) (by decide)]; exact h.1.2.2.2.2.2.2.2)
    have eld : load M j = ldN (rates S) (S 19) j 8 := by rw [load_cong (m1 3 (by decide)) (m1 19 (by decide)) (m1 24 (by decide)) (m1 25 (by decide)), load_ldN h]
    have hld := ldN_le (w := rates S) (t := S 19) (l := j) (fun i _ _ => (rates_bd h i).1) 8 (by omega)
    have hld2 : ldN (rates S) (S 19) j 8 ≤ sW S := hld.2
    repeat (refine gV_s rfl (by first | exact trivial | omega) ?_)
    refine gV_cV (ok_loadOf (d := d) (M := M) (l := j) (P := fun r M' => r = vI (ldN (rates S) (S 19) j 8) ∧ M' = M) hA2 (by unfold rng; omega) ⟨by rw [eld], rfl⟩) mX4_loadOf_ok sX4_X4_loadOf rfl rfl rfl rfl rfl rfl ?_
    rintro r M' ⟨rfl, rfl⟩
    have m2' : M' 6 8 = sA S := m2
    have hw8 := ok_within (d := d + 1) (M := M') (l := j) (x := ldN (rates S) (S 19) j 8) (by omega) (by omega) (by omega) (by rw [m2']; exact hA) (by rw [m3]; exact hw) (by rw [m4]; exact hk) (by rw [m1 7 (by decide)]; have := h.2.1.2.2 j; omega)
    rw [m2', m3, m4, m1 7 (by decide)] at hw8
    refine gV_cV hw8 mX4_isWithinShare_ok sX4_X4_isWithinShare rfl rfl rfl rfl rfl rfl ?_
    rintro r M2 ⟨rfl, ⟨h3, rfl⟩ | ⟨h3, rfl⟩⟩
    · refine gV_in rfl (by unfold rng; omega) (by omega) ?_
      exact nxt (fun _ => h3)
    · refine gV_it rfl (by unfold rng; omega) rfl ?_
      repeat (refine gV_s rfl (by first | exact trivial | omega) ?_)
      exact gV_ret rfl (Or.inl rfl) ⟨rfl, Or.inr ⟨fun q => h3 (q j (by omega) (by omega) (by omega)), rfl⟩⟩
theorem ok_evenC {d : Nat} {S : Mem} {k : Int} (h : NI S) (hu : anyUp S) (hk : 0 ≤ k ∧ k ≤ 1000) : gOk mX4_isEven (d + 3) [vR 6, vI k] S (fun r M' => evM S M' ∧ ((Ev0 S k (S 19) ∧ r = vI 1) ∨ (¬ Ev0 S k (S 19) ∧ r = vI 0))) := by
  have hL := h.1.1
  refine gOk_of mX4_isEven_ok (by simp) (Nat.le_of_ble_eq_true rfl) ?_
  repeat (refine gV_s rfl (by first | exact trivial | omega) ?_)
  refine gV_cV (ok_measure (d := d) (k := k) (P := fun r M' => r = none ∧ MsP S M' k (S 1 0).toNat) h (fun M' a => ⟨rfl, a⟩)) mX4_measure_ok sX4_X4_measure rfl rfl rfl rfl rfl rfl ?_
  rintro r M' ⟨rfl, hM⟩
  have e1 : M' 1 0 = S 1 0 := by rw [hM.1 1 (by decide)]
  repeat (refine gV_s rfl (by first | exact trivial | omega) ?_)
  rw [e1]
  have := evC_loop (d := d + 1) h hu hk hM (S 1 0).toNat 0 (by omega) (fun l a b => by omega)
  refine gV_mono this ?_
  rintro r M2 ⟨rfl, hr⟩
  exact ⟨⟨hM.1, hM.2.2.2.2 0 (by decide) (by decide) (by decide)⟩, hr⟩
theorem ok_cEven {d : Nat} {S : Mem} {k : Int} (h : NI S) (hk : rng k) : gOk mX6_even (d + 4) [vR 0, vI k] S (fun r M' => evM S M' ∧ ∃ v, r = vI v ∧ evA S k v) := by
  refine gOk_of mX6_even_ok (by simp) (Nat.le_of_ble_eq_true rfl) ?_
  repeat (refine gV_s rfl (by first | exact trivial | omega) ?_)
  refine gV_cS (ok_isWithin (d := d + 3) (M := S) hk (by unfold rng; omega) (by unfold rng; omega)) mX6_isWithin_ok sX6_X6_isWithin rfl rfl rfl rfl ?_
  rintro r M' ⟨rfl, ⟨h1, rfl⟩ | ⟨h1, rfl⟩⟩
  · refine gV_in rfl (by unfold rng; omega) (by omega) ?_
    repeat (refine gV_s rfl (by first | exact trivial | omega) ?_)
    refine gV_cV (ok_anyUp (d := d + 3) (M := M') h) mX3_isAnyUp_ok sX6_X3_isAnyUp rfl rfl rfl rfl rfl rfl ?_
    rintro r M2 ⟨rfl, ⟨h2, rfl⟩ | ⟨h2, rfl⟩⟩
    · refine gV_in rfl (by unfold rng; omega) (by omega) ?_
      repeat (refine gV_s rfl (by first | exact trivial | omega) ?_)
      refine gV_cV (ok_evenC (d := d) h h2 h1) mX4_isEven_ok sX6_X4_isEven rfl rfl rfl rfl rfl rfl ?_
      rintro r M3 ⟨he, ⟨h3, rfl⟩ | ⟨h3, rfl⟩⟩
      · refine gV_cS (ok_oneIf (d := d + 3) (P := fun r M'' => r = vI 1 ∧ M'' = M3) (Or.inr rfl) ⟨rfl, rfl⟩) mX6_oneIf_ok sX6_X6_oneIf rfl rfl rfl rfl ?_
        rintro r M4 ⟨rfl, rfl⟩
        exact gV_ret rfl trivial ⟨he, 1, rfl, Or.inr (Or.inr ⟨h1, h2, Or.inl ⟨h3, rfl⟩⟩)⟩
      · refine gV_cS (ok_oneIf (d := d + 3) (P := fun r M'' => r = vI 0 ∧ M'' = M3) (Or.inl rfl) ⟨rfl, rfl⟩) mX6_oneIf_ok sX6_X6_oneIf rfl rfl rfl rfl ?_
        rintro r M4 ⟨rfl, rfl⟩
        exact gV_ret rfl trivial ⟨he, 0, rfl, Or.inr (Or.inr ⟨h1, h2, Or.inr ⟨h3, rfl⟩⟩)⟩
    · refine gV_it rfl (by unfold rng; omega) rfl ?_
      repeat (refine gV_s rfl (by first | exact trivial | omega) ?_)
      exact gV_ret rfl trivial ⟨⟨fun _ _ => rfl, rfl⟩, -3, rfl, Or.inr (Or.inl ⟨h1, h2, rfl⟩)⟩
  · refine gV_it rfl (by unfold rng; omega) rfl ?_
    repeat (refine gV_s rfl (by first | exact trivial | omega) ?_)
    exact gV_ret rfl trivial ⟨⟨fun _ _ => rfl, rfl⟩, -2, rfl, Or.inl ⟨h1, rfl⟩⟩
/-- answers of least, and what it keeps -/
def lsA (S : Mem) (k v h' : Int) (pl' : Int → Int) : Prop := (¬ (0 ≤ k ∧ k ≤ 1000) ∧ v = -2 ∧ h' = S 6 0 ∧ pl' = S 43) ∨ ((0 ≤ k ∧ k ≤ 1000) ∧ ¬ anyUp S ∧ v = -3 ∧ h' = S 6 0 ∧ pl' = S 43) ∨ ((0 ≤ k ∧ k ≤ 1000) ∧ anyUp S ∧ ∃ F, Imp (Ev0 S k) (Qa (S 9) (S 1 0)) (Mv S) 9 (S 6 0) (S 43) F h' pl' ∧ v = if F ≤ 8 then F else -6)
theorem lsA_fun {S : Mem} {k v h1 v' h1' : Int} {pl1 pl1' : Int → Int} (hL : S 1 0 ≤ 4) (h : lsA S k v h1 pl1) (h' : lsA S k v' h1' pl1') : v = v' ∧ h1 = h1' ∧ pl1 = pl1' := by
  rcases h with ⟨a, b, c, e⟩ | ⟨a, b, c, e, f⟩ | ⟨a, b, F, c, e⟩ <;> rcases h' with ⟨a', b', c', e'⟩ | ⟨a', b', c', e', f'⟩ | ⟨a', b', F', c', e'⟩
  · exact ⟨by omega, by omega, by rw [e, e']⟩
  · exact absurd a' a
  · exact absurd a' a
  · exact absurd a a'
  · exact ⟨by omega, by omega, by rw [f, f']⟩
  · exact absurd b' b
  · exact absurd a a'
  · exact absurd b b'
  · obtain ⟨q1, q2, q3⟩ := Imp_fun (fun s hs => vld_dig hL hs) c c'
    subst q1
    exact ⟨by rw [e, e'], q2, q3⟩
/-- what a search leaves of the class -/
def lsM0 (S M' : Mem) : Prop := (∀ r, r ≠ 6 → r ≠ 43 → r ≠ 44 → r ≠ 46 → M' r = S r)
theorem wgt_loop {d : Nat} {S : Mem} {k : Int} {P : PV → Mem → Prop} (h : NI S) (hP : ∀ (M' : Mem) (z : Int), (∀ r, r ≠ 6 → r ≠ 44 → M' r = S r) → M' 6 8 = sA S → M' 6 9 = sm (upLd S) (S 1 0).toNat → M' 6 10 = k → M' 6 0 = S 6 0 → (∀ i : Int, 0 ≤ i → i < 8 → M' 44 i = rates S i) → gV mX4_fewestMoves (d + 3) P 33 [vR 6, vI k, vI z] [] M') :
    ∀ (n j : Nat) (M : Mem), j + n = 8 → (∀ r, r ≠ 6 → r ≠ 44 → M r = S r) → M 6 8 = sA S → M 6 9 = sm (upLd S) (S 1 0).toNat → M 6 10 = k → M 6 0 = S 6 0 → (∀ i : Int, 0 ≤ i → i < j → M 44 i = rates S i) → gV mX4_fewestMoves (d + 3) P 10 [vR 6, vI k, vI j] [vI 8, vI j] M := by
  intro n
  induction n with
  | zero =>
    intro j M hj h1 h2 h3 h4 h5 h6
    have e : j = 8 := by omega
    subst e
    exact gV_it rfl (by unfold rng; omega) (by omega) (hP M _ h1 h2 h3 h4 h5 (fun i a b => h6 i a (by omega)))
  | succ n ih =>
    intro j M hj h1 h2 h3 h4 h5 h6
    have hA2 : AI M (fun _ => S 5 0) (-1) := AI_pl h (fun r a b => h1 r a (by omega)) (by rw [h5]; exact h.1.2.2.2.2.2.2.2)
    have er : rates M j = rates S j := rates_cong (h1 3 (by decide) (by decide)) (h1 24 (by decide) (by decide)) (h1 25 (by decide) (by decide)) _
    refine gV_in rfl (by unfold rng; omega) (by omega) ?_
    repeat (refine gV_s rfl (by first | exact trivial | omega) ?_)
    refine gV_cV (ok_rateOfBucket (d := d + 1) (M := M) (b := j) (P := fun r M' => r = vI (rates S j) ∧ M' = M) hA2 (by unfold rng; omega) ⟨by rw [er], rfl⟩) mX1_rateOfBucket_ok sX4_X1_rateOfBucket rfl rfl rfl rfl rfl rfl ?_
    rintro r M' ⟨rfl, rfl⟩
    repeat (refine gV_s rfl (by first | exact trivial | omega) ?_)
    refine ih (j + 1) _ (by omega) (fun r a b => by rw [mw_rn _ _ _ b]; exact h1 r a b) (by rw [mw_rn _ _ _ (by decide)]; exact h2) (by rw [mw_rn _ _ _ (by decide)]; exact h3) (by rw [mw_rn _ _ _ (by decide)]; exact h4) (by rw [mw_rn _ _ _ (by decide)]; exact h5) (fun i a b => ?_)
    rw [mw_rs, up1_e]
    split
    · rename_i e; rw [e]
    · exact h6 i a (by push_cast at b; omega)
theorem ok_fewest {d : Nat} {S : Mem} {k : Int} (h : NI S) (hu : anyUp S) (hk : 0 ≤ k ∧ k ≤ 1000) (hz : ∀ l : Int, 0 ≤ l → l < 4 → S 45 l = 0) : gOk mX4_fewestMoves (d + 19) [vR 6, vI k] S (fun r M' => lsM0 S M' ∧ ∃ v, r = vI v ∧ lsA S k v (M' 6 0) (M' 43)) := by
  have hL := h.1.1
  have hw := sW_bd h
  have hA := sA_bd h
  refine gOk_of mX4_fewestMoves_ok (by simp) (Nat.le_of_ble_eq_true rfl) ?_
  repeat (refine gV_s rfl (by first | exact trivial | omega) ?_)
  refine gV_cV (ok_measure (d := d + 16) (k := k) (P := fun r M' => r = none ∧ MsP S M' k (S 1 0).toNat) h (fun M' a => ⟨rfl, a⟩)) mX4_measure_ok sX4_X4_measure rfl rfl rfl rfl rfl rfl ?_
  rintro r M1 ⟨rfl, g1, g2, g3, g4, g5⟩
  repeat (refine gV_s rfl (by first | exact trivial | omega) ?_)
  refine wgt_loop (d := d + 16) (S := S) (k := k) h (fun M' z w1 w2 w3 w4 w5 w6 => ?_) 8 0 M1 rfl (fun r a b => g1 r a) g2 g3 g4 (g5 0 (by decide) (by decide) (by decide)) (fun i a b => by omega)
  rw [upLd_all h hu] at w3
  have er : ∀ r, r ≠ 6 → mw M' 6 11 9 r = M' r := fun r a => mw_rn _ _ _ a
  have e6 : ∀ i, i ≠ 11 → mw M' 6 11 9 6 i = M' 6 i := fun i a => by rw [mw_rs, up1_n _ _ a]
  have e611 : mw M' 6 11 9 6 11 = 9 := by rw [mw_rs, up1_s]
  have c1 : mw M' 6 11 9 1 = S 1 := by rw [er 1 (by decide), w1 1 (by decide) (by decide)]
  have c9 : mw M' 6 11 9 9 = S 9 := by rw [er 9 (by decide), w1 9 (by decide) (by decide)]
  have c7 : mw M' 6 11 9 7 = S 7 := by rw [er 7 (by decide), w1 7 (by decide) (by decide)]
  have c19 : mw M' 6 11 9 19 = S 19 := by rw [er 19 (by decide), w1 19 (by decide) (by decide)]
  have c43 : mw M' 6 11 9 43 = S 43 := by rw [er 43 (by decide), w1 43 (by decide) (by decide)]
  have c45 : mw M' 6 11 9 45 = S 45 := by rw [er 45 (by decide), w1 45 (by decide) (by decide)]
  have c44 : ∀ i : Int, 0 ≤ i → i < 8 → mw M' 6 11 9 44 i = rates S i := fun i a b => by rw [er 44 (by decide)]; exact w6 i a b
  have c8 : mw M' 6 11 9 6 8 = sA S := by rw [e6 8 (by decide), w2]
  have c99 : mw M' 6 11 9 6 9 = sW S := by rw [e6 9 (by decide), w3]
  have c10 : mw M' 6 11 9 6 10 = k := by rw [e6 10 (by decide), w4]
  have c0 : mw M' 6 11 9 6 0 = S 6 0 := by rw [e6 0 (by decide), w5]
  have hsm : sm (mw M' 6 11 9 44) 8 = sW S := sm_cong (fun j a b => c44 j a (by omega))
  have hC : PlC (mw M' 6 11 9) := by
    refine ⟨by rw [c1]; exact hL, fun l => ?_, by rw [c9, c1, c19]; exact on_vld h hu, fun i a b => by rw [c44 i a b]; exact rates_bd h i, by rw [hsm]; exact hw.2, by rw [c8]; exact hA, by rw [c99]; exact hw, by rw [c10]; exact hk, fun l => ?_⟩
    · rw [c9]
      rcases h.2.1.2.1 l with q | q
      · exact Or.inl q
      · exact Or.inr q.1
    · rw [c7]
      have := h.2.1.2.2 l
      omega
  have hI : PI (mw M' 6 11 9) (mw M' 6 11 9) 0 0 := by
    refine ⟨⟨fun _ _ _ _ _ => rfl, fun _ _ _ => rfl⟩, fun b a c => by omega, fun l l0 l4 => ?_, rfl, by rw [e611]; decide, by rw [e611]; decide, fun l l0 lL hul => ?_⟩
    · rw [c45, hz l l0 l4]; rfl
    · rw [c8, c99, c10, c7]
      unfold wth
      show (0 : Int) * sA S * 100 ≤ _
      have b2 := mul_bd (x := 100 + k) (a := 1100) (by omega) (by omega) hw.1 hw.2
      have hsp := h.2.1.2.2 l
      have b3 := mul_bd b2.1 b2.2 hsp.1 hsp.2.1
      omega
  have hp := place_all hC 8 0 rfl d (mw M' 6 11 9) 0 hI
  repeat (refine gV_s rfl (by first | exact trivial | omega) ?_)
  refine gV_cV hp mX4_place_ok sX4_X4_place rfl rfl rfl rfl rfl rfl ?_
  rintro r M2 ⟨rfl, o1, o2, o3, o4⟩
  rw [e611, c0, c43] at o4
  have o5 := Imp_all (by rw [c9, c1, c19]; exact on_vld h hu) o4
  have o6 : Imp (Ev0 S k) (Qa (S 9) (S 1 0)) (Mv S) 9 (S 6 0) (S 43) (M2 6 11) (M2 6 0) (M2 43) := by
    rw [c8, c99, c10, c7, c9, c1, c19] at o5
    refine Imp_E (fun s => ?_) o5
    unfold Ev0 evn
    have : ∀ l, ldN (mw M' 6 11 9 44) s l 8 = ldN (rates S) s l 8 := fun l => ldN_congw (fun b b0 b1 => c44 b b0 (by omega))
    simp only [this]
  have hl0 : lsM0 S M2 := fun r a1 a2 a3 a4 => by
    by_cases e : r = 45
    · subst e; rw [o2, c45]
    · rw [o1.1 r a1 a2 e a4, er r a1, w1 r a1 a3]
  have hF : -1 ≤ M2 6 11 ∧ M2 6 11 ≤ 9 := by
    refine ⟨?_, Imp_le o6⟩
    rcases o6 with a | ⟨a1, a2, t, a3, a4, a5, a6, a7⟩
    · have := a.1; omega
    · have := (ct_nn (fun j => decide (t j ≠ S 19 j)) 8).1
      have a5' : ct (fun j => decide (t j ≠ S 19 j)) 8 = M2 6 11 := a5
      omega
  repeat (refine gV_s rfl (by first | exact trivial | omega) ?_)
  refine gV_i rfl (by unfold rng; omega) (fun h1 => ?_) (fun h1 => ?_)
  · repeat (refine gV_s rfl (by first | exact trivial | omega) ?_)
    exact gV_ret rfl trivial ⟨hl0, -6, rfl, Or.inr (Or.inr ⟨hk, hu, M2 6 11, o6, by rw [if_neg (by omega)]⟩)⟩
  · repeat (refine gV_s rfl (by first | exact trivial | omega) ?_)
    exact gV_ret rfl trivial ⟨hl0, M2 6 11, rfl, Or.inr (Or.inr ⟨hk, hu, M2 6 11, o6, by rw [if_pos (by omega)]⟩)⟩
theorem ok_cLeast {d : Nat} {S : Mem} {k : Int} (h : NI S) (hk : rng k) (hz : ∀ l : Int, 0 ≤ l → l < 4 → S 45 l = 0) : gOk mX6_least (d + 20) [vR 0, vI k] S (fun r M' => lsM0 S M' ∧ ∃ v, r = vI v ∧ lsA S k v (M' 6 0) (M' 43)) := by
  refine gOk_of mX6_least_ok (by simp) (Nat.le_of_ble_eq_true rfl) ?_
  repeat (refine gV_s rfl (by first | exact trivial | omega) ?_)
  refine gV_cS (ok_isWithin (d := d + 19) (M := S) hk (by unfold rng; omega) (by unfold rng; omega)) mX6_isWithin_ok sX6_X6_isWithin rfl rfl rfl rfl ?_
  rintro r M' ⟨rfl, ⟨h1, rfl⟩ | ⟨h1, rfl⟩⟩
  · refine gV_in rfl (by unfold rng; omega) (by omega) ?_
    repeat (refine gV_s rfl (by first | exact trivial | omega) ?_)
    refine gV_cV (ok_anyUp (d := d + 19) (M := M') h) mX3_isAnyUp_ok sX6_X3_isAnyUp rfl rfl rfl rfl rfl rfl ?_
    rintro r M2 ⟨rfl, ⟨h2, rfl⟩ | ⟨h2, rfl⟩⟩
    · refine gV_in rfl (by unfold rng; omega) (by omega) ?_
      repeat (refine gV_s rfl (by first | exact trivial | omega) ?_)
      refine gV_cV (ok_fewest (d := d) h h2 h1 hz) mX4_fewestMoves_ok sX6_X4_fewestMoves rfl rfl rfl rfl rfl rfl ?_
      rintro r M3 ⟨hl, v, rfl, hv⟩
      exact gV_ret rfl trivial ⟨hl, v, rfl, hv⟩
    · refine gV_it rfl (by unfold rng; omega) rfl ?_
      repeat (refine gV_s rfl (by first | exact trivial | omega) ?_)
      exact gV_ret rfl trivial ⟨fun _ _ _ _ _ => rfl, -3, rfl, Or.inr (Or.inl ⟨h1, h2, rfl, rfl, rfl⟩)⟩
  · refine gV_it rfl (by unfold rng; omega) rfl ?_
    repeat (refine gV_s rfl (by first | exact trivial | omega) ?_)
    exact gV_ret rfl trivial ⟨fun _ _ _ _ _ => rfl, -2, rfl, Or.inl ⟨h1, rfl, rfl, rfl⟩⟩
