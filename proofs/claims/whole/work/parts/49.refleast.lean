/-! The reference: least. -/
theorem rk_bd {t : Int → Int} (h : dig t) : ∀ n : Nat, n ≤ 8 → 0 ≤ rk t n ∧ rk t n + 1 ≤ 4 ^ n
  | 0, _ => by simp [rk]
  | n + 1, hn => by
    have ih := rk_bd h n (by omega)
    have hd := h n (by omega) (by omega)
    simp only [rk]
    rw [Int.pow_succ]
    omega
theorem rk_8 {t : Int → Int} (h : dig t) : 0 ≤ rk t 8 ∧ rk t 8 ≤ 65535 := by
  have := rk_bd h 8 (by omega)
  have e : (4 : Int) ^ 8 = 65536 := by decide
  omega
def LsC (S M M' : Mem) : Prop := M' 48 = S 7 ∧ M' 50 = S 9 ∧ M' 52 = S 19 ∧ M' 47 1 = S 1 0 ∧ (∀ i : Int, 0 ≤ i → i < 8 → M' 72 i = rates S i) ∧ (∀ r, r ≠ 47 → r < 70 → M' r = M r) ∧ (∀ i, i ≠ 31 → M' 47 i = M 47 i)
def LsP (S M : Mem) (k : Int) : PV → Mem → Prop := fun r M' => (∀ r, r ≠ 47 → r < 70 → M' r = M r) ∧ (∀ i, i ≠ 31 → M' 47 i = M 47 i) ∧ ∃ v, r = vI v ∧ lsA S k v (M' 47 31) (M' 70)
theorem cnt_loop {d : Nat} {M' : Mem} {k best : Int} {P : PV → Mem → Prop} (ht : ∀ j : Int, 0 ≤ j → j < 8 → 0 ≤ M' 73 j ∧ M' 73 j ≤ 3) (ho : ∀ j, -6 ≤ M' 52 j ∧ M' 52 j < 4)
    (kk : gV mX7_least d P 178 [vR 47, vI k, vI best, vI 1, vI (mvN (M' 52) (M' 73) 8), vI (8 : Nat)] [] M') :
    ∀ (n j : Nat), j + n = 8 → gV mX7_least d P 142 [vR 47, vI k, vI best, vI 1, vI (mvN (M' 52) (M' 73) j), vI j] [vI 8, vI j] M'
  | 0, j, hj => by
    have e : j = 8 := by omega
    subst e
    exact gV_it rfl (by unfold rng; omega) (by omega) kk
  | n + 1, j, hj => by
    have ih := cnt_loop ht ho kk n (j + 1) (by omega)
    have h1 := ht j (by omega) (by omega)
    have h2 := ho j
    unfold mvN at ih ⊢
    rw [ct_s _ j] at ih
    refine gV_in rfl (by unfold rng; omega) (by omega) ?_
    repeat (refine gV_s rfl (by first | exact trivial | omega) ?_)
    refine gV_i rfl (by unfold rng; omega) (fun h3 => ?_) (fun h3 => ?_)
    · rw [if_neg (by simp [h3]), Int.add_zero] at ih
      repeat (refine gV_s rfl (by first | exact trivial | omega) ?_)
      rw [Int.add_zero]
      exact ih
    · rw [if_pos (by simp [h3])] at ih
      repeat (refine gV_s rfl (by first | exact trivial | omega) ?_)
      exact ih
theorem cpy_loop {d : Nat} {M' : Mem} {k best z4 : Int} {P : PV → Mem → Prop} (kk : ∀ M2 : Mem, (∀ r, r ≠ 70 → M2 r = M' r) → (∀ i, M2 70 i = if 0 ≤ i ∧ i < 8 then M' 73 i else M' 70 i) → gV mX7_least d P 229 [vR 47, vI k, vI best, vI 1, vI z4, vI (8 : Nat)] [] M2) :
    ∀ (n j : Nat) (M2 : Mem), j + n = 8 → (∀ r, r ≠ 70 → M2 r = M' r) → (∀ i, M2 70 i = if 0 ≤ i ∧ i < j then M' 73 i else M' 70 i) → gV mX7_least d P 206 [vR 47, vI k, vI best, vI 1, vI z4, vI j] [vI 8, vI j] M2
  | 0, j, M2, hj, h1, h2 => by
    have e : j = 8 := by omega
    subst e
    exact gV_it rfl (by unfold rng; omega) (by omega) (kk M2 h1 h2)
  | n + 1, j, M2, hj, h1, h2 => by
    refine gV_in rfl (by unfold rng; omega) (by omega) ?_
    repeat (refine gV_s rfl (by first | exact trivial | omega) ?_)
    refine cpy_loop kk n (j + 1) _ (by omega) (fun r a => by rw [mw_rn _ _ _ a]; exact h1 r a) (fun i => ?_)
    rw [mw_rs, up1_e, h1 73 (by decide)]
    by_cases e : i = j
    · rw [if_pos e, if_pos (by push_cast; omega), e]
    · rw [if_neg e, h2 i]
      by_cases c : 0 ≤ i ∧ i < j
      · rw [if_pos c, if_pos (by push_cast; omega)]
      · rw [if_neg c, if_neg (by push_cast; omega)]
theorem evn_cong {A W k L : Int} {sp up w s t : Int → Int} (h : ∀ b : Int, 0 ≤ b → b < 8 → s b = t b) : evn A W k sp up L w s ↔ evn A W k sp up L w t := by
  unfold evn
  have : ∀ l, ldN w s l 8 = ldN w t l 8 := fun l => ldN_cong (fun b b0 b1 => h b b0 (by omega))
  simp only [this]
theorem least_main {d : Nat} {S M : Mem} {k : Int} (h : NI S) (hu : anyUp S) (hk : 0 ≤ k ∧ k ≤ 1000) : ∀ (N : Nat) (M' : Mem) (best : Int) (z4 z5 : PV), (65536 - rk (M' 73) 8).toNat ≤ N → LsC S M M' → TC M' → (best = -6 ∨ (0 ≤ best ∧ best ≤ 8)) → Imp (Ev0 S k) (fun s => Qa (S 9) (S 1 0) s ∧ rk s 8 < rk (M' 73) 8) (Mv S) 9 (S 6 0) (S 43) (if best < 0 then 9 else best) (M' 47 31) (M' 70) →
    gV mX7_least (d + 2) (LsP S M k) 129 [vR 47, vI k, vI best, vI 1, z4, z5] [vI 1] M' := by
  have hL := h.1.1
  intro N
  induction N with
  | zero =>
    intro M' best z4 z5 hN hC hT hb hI
    have := rk_8 (vld_dig hT.1.2 hT.2.2.1)
    omega
  | succ N ih =>
    intro M' best z4 z5 hN hC hT hb hI
    obtain ⟨c48, c50, c52, c47, c72, cf, c47'⟩ := id hC
    obtain ⟨tL, tu, tv, tl⟩ := id hT
    have hdig := vld_dig tL.2 tv
    have hrk := rk_8 hdig
    have hvS : vld (S 9) (S 1 0) (M' 73) 8 := by rw [← c50, ← c47]; exact tv
    have same : ∀ s, Qa (S 9) (S 1 0) s → rk s 8 = rk (M' 73) 8 → ∀ b : Int, 0 ≤ b → b < 8 → s b = M' 73 b := fun s hs he b b0 b8 => rk_inj (vld_dig hL.2 hs) hdig 8 (by omega) he b b0 (by omega)
    have hsame : ∀ s, Qa (S 9) (S 1 0) s → rk s 8 = rk (M' 73) 8 → Mv S s = mvN (S 19) (M' 73) 8 := fun s hs he => mvN_cong (fun b b0 b1 => same s hs he b b0 (by omega))
    have hmv : 0 ≤ mvN (S 19) (M' 73) 8 ∧ mvN (S 19) (M' 73) 8 ≤ 8 := by
      have := ct_nn (fun b => decide (M' 73 b ≠ S 19 b)) 8
      unfold mvN
      omega
    have tail : ∀ (M2 : Mem) (best' : Int) (z4 z5 : PV), LsC S M M2 → TC M2 → M2 73 = M' 73 → (best' = -6 ∨ (0 ≤ best' ∧ best' ≤ 8)) → Imp (Ev0 S k) (fun s => Qa (S 9) (S 1 0) s ∧ rk s 8 = rk (M' 73) 8) (Mv S) (if best < 0 then 9 else best) (M' 47 31) (M' 70) (if best' < 0 then 9 else best') (M2 47 31) (M2 70) → gV mX7_least (d + 2) (LsP S M k) 234 [vR 47, vI k, vI best', vI 1, z4, z5] [] M2 := by
      intro M2 best' z4 z5 hC2 hT2 e73 hb2 hI2
      have hI3 := Imp_tr hI hI2 (fun s1 s2 a1 a2 => by have := a1.2; have := a2.2; omega)
      obtain ⟨k48, k50, k52, k47, k72, kf, k47'⟩ := id hC2
      repeat (refine gV_s rfl (by first | exact trivial | omega) ?_)
      refine gV_cV (ok_turns (d := d) hT2) mX7_turns_ok sX7_X7_turns rfl rfl rfl rfl rfl rfl ?_
      rintro r M3 ⟨g1, ⟨rfl, g2, g3, g4⟩ | ⟨rfl, g3⟩⟩
      · rw [e73] at g3 g4
        rw [k50, k47] at g4
        repeat (refine gV_s rfl (by first | exact trivial | omega) ?_)
        have e47 : M3 47 = M2 47 := g1 47 (by decide) (by decide)
        have e70 : M3 70 = M2 70 := g1 70 (by decide) (by decide)
        refine ih M3 best' _ _ (by omega) ⟨by rw [g1 48 (by decide) (by decide)]; exact k48, by rw [g1 50 (by decide) (by decide)]; exact k50, by rw [g1 52 (by decide) (by decide)]; exact k52, by rw [e47]; exact k47, by rw [g1 72 (by decide) (by decide)]; exact k72, fun r a b => by rw [g1 r (by omega) (by omega)]; exact kf r a b, by rw [e47]; exact k47'⟩ g2 hb2 ?_
        rw [e47, e70]
        refine Imp_iff (fun s => ?_) hI3
        constructor
        · rintro (a | a)
          · exact ⟨a.1, by have := a.2; omega⟩
          · exact ⟨a.1, by have := a.2; omega⟩
        · rintro ⟨a1, a2⟩
          by_cases c : rk s 8 < rk (M' 73) 8
          · exact Or.inl ⟨a1, c⟩
          · by_cases c2 : rk s 8 = rk (M' 73) 8
            · exact Or.inr ⟨a1, c2⟩
            · have := g4 s a1 (by omega)
              omega
      · rw [e73] at g3
        rw [k50, k47] at g3
        repeat (refine gV_s rfl (by first | exact trivial | omega) ?_)
        refine gV_it rfl (by unfold rng; omega) rfl ?_
        repeat (refine gV_s rfl (by first | exact trivial | omega) ?_)
        have e47 : M3 47 = M2 47 := g1 47 (by decide) (by decide)
        have e70 : M3 70 = M2 70 := g1 70 (by decide) (by decide)
        refine gV_ret rfl trivial ⟨fun r a b => by rw [g1 r (by omega) (by omega)]; exact kf r a b, by rw [e47]; exact k47', best', rfl, Or.inr (Or.inr ⟨hk, hu, if best' < 0 then 9 else best', ?_, ?_⟩)⟩
        · rw [e47, e70]
          refine Imp_iff (fun s => ?_) hI3
          constructor
          · rintro (a | a)
            · exact a.1
            · exact a.1
          · intro a
            have := g3 s a
            by_cases c : rk s 8 < rk (M' 73) 8
            · exact Or.inl ⟨a, c⟩
            · exact Or.inr ⟨a, by omega⟩
        · rcases hb2 with q | q
          · rw [q]; rfl
          · rw [if_neg (show ¬ best' < 0 by omega), if_pos (show best' ≤ 8 by omega)]
    have hld : ∀ l : Int, 0 ≤ l → l < 4 → M' 71 l = ldN (rates S) (M' 73) l 8 := fun l a b => by rw [tl l a b]; exact ldN_congw (fun i i0 i1 => c72 i i0 (by omega))
    have hw := sW_bd h
    have hEC : EC M' := by
      refine ⟨tL, tu, fun l => ?_, fun l a b => ?_⟩
      · rw [c48]; have := h.2.1.2.2 l; omega
      · rw [hld l a (by omega)]
        have := ldN_le (w := rates S) (t := M' 73) (l := l) (fun i _ _ => (rates_bd h i).1) 8 (by omega)
        have h2 : ldN (rates S) (M' 73) l 8 ≤ sW S := this.2
        omega
    have euS : sm (uS M') (M' 47 1).toNat = sA S := by
      unfold sA
      rw [c47]
      exact sm_cong (fun j _ _ => by unfold uS upSp; rw [c50, c48])
    have euL : sm (uL M') (M' 47 1).toNat = sW S := by
      have := ld_all (up := S 9) (w := rates S) (t := M' 73) (L := (S 1 0).toNat) 8 (fun b b0 b1 => by
        have := hvS b b0 (by omega)
        exact ⟨this.1, by omega, this.2.2⟩)
      unfold sW
      rw [← this, c47]
      exact sm_cong (fun j a b => by unfold uL; rw [c50, hld j a (by omega)])
    have hiff : (∀ l : Int, 0 ≤ l → l < M' 47 1 → evP M' k l) ↔ Ev0 S k (M' 73) := by
      unfold evP Ev0 evn wth
      rw [euS, euL, c47, c50, c48]
      constructor
      · intro q l a b c
        have := q l a b c
        rw [hld l a (by omega)] at this
        exact this
      · intro q l a b c
        rw [hld l a (by omega)]
        exact q l a b c
    have skip : (∀ s, (Qa (S 9) (S 1 0) s ∧ rk s 8 = rk (M' 73) 8) → Ev0 S k s → (if best < 0 then 9 else best) ≤ Mv S s) → ∀ z4 z5 : PV, gV mX7_least (d + 2) (LsP S M k) 234 [vR 47, vI k, vI best, vI 1, z4, z5] [] M' := fun hno z4 z5 => tail M' best z4 z5 hC hT rfl hb (Imp_no hno)
    have look : mvN (S 19) (M' 73) 8 < (if best < 0 then 9 else best) → gV mX7_least (d + 2) (LsP S M k) 188 [vR 47, vI k, vI best, vI 1, vI (mvN (S 19) (M' 73) 8), vI (8 : Nat)] [] M' := by
      intro hlt
      repeat (refine gV_s rfl (by first | exact trivial | omega) ?_)
      refine gV_cV (ok_isEvenM (d := d + 1) (M := M') hEC hk) mX7_isEven_ok sX7_X7_isEven rfl rfl rfl rfl rfl rfl ?_
      rintro r M2 ⟨rfl, ⟨h5, rfl⟩ | ⟨h5, rfl⟩⟩
      · refine gV_in rfl (by unfold rng; omega) (by omega) ?_
        repeat (refine gV_s rfl (by first | exact trivial | omega) ?_)
        refine cpy_loop (M' := M2) (fun M3 e1 e2 => ?_) 8 0 M2 rfl (fun _ _ => rfl) (fun i => by rw [if_neg (by omega)])
        have em : ∀ r, r ≠ 47 → mw M3 47 31 1 r = M3 r := fun r a => mw_rn _ _ _ a
        have em47 : ∀ i, i ≠ 31 → mw M3 47 31 1 47 i = M2 47 i := fun i a => by rw [mw_rs, up1_n _ _ a, e1 47 (by decide)]
        refine gV_s rfl trivial (gV_s rfl trivial (gV_s rfl (Or.inr rfl) ?_))
        refine tail (mw M3 47 31 1) _ _ _ ⟨by rw [em 48 (by decide), e1 48 (by decide)]; exact c48, by rw [em 50 (by decide), e1 50 (by decide)]; exact c50, by rw [em 52 (by decide), e1 52 (by decide)]; exact c52, by rw [em47 1 (by decide)]; exact c47, by rw [em 72 (by decide), e1 72 (by decide)]; exact c72, fun r a b => by rw [em r a, e1 r (by omega)]; exact cf r a b, fun i a => by rw [em47 i a]; exact c47' i a⟩ ⟨by rw [em47 1 (by decide)]; exact tL, by rw [em 50 (by decide), e1 50 (by decide)]; exact tu, by rw [em47 1 (by decide), em 50 (by decide), e1 50 (by decide), em 73 (by decide), e1 73 (by decide)]; exact tv, by rw [em 71 (by decide), e1 71 (by decide), em 72 (by decide), e1 72 (by decide), em 73 (by decide), e1 73 (by decide)]; exact tl⟩ (by rw [em 73 (by decide), e1 73 (by decide)]) (Or.inr hmv) ?_
        rw [if_neg (show ¬ mvN (S 19) (M2 73) 8 < 0 by omega)]
        refine Or.inr ⟨hlt, by rw [mw_rs, up1_s], M2 73, ⟨hvS, rfl⟩, hiff.mp h5, rfl, fun j => by rw [em 70 (by decide)]; exact e2 j, fun s hs _ => Or.inr ⟨(hsame s hs.1 hs.2).symm, Int.le_of_eq hs.2.symm⟩⟩
      · refine gV_it rfl (by unfold rng; omega) rfl ?_
        refine skip (fun s hs he => absurd (hiff.mpr ?_) h5) _ _
        unfold Ev0 at he ⊢
        exact (evn_cong (fun b b0 b8 => same s hs.1 hs.2 b b0 b8)).mp he
    refine gV_in rfl (by unfold rng; omega) (by omega) ?_
    repeat (refine gV_s rfl (by first | exact trivial | omega) ?_)
    have on52 : ∀ j, -6 ≤ M' 52 j ∧ M' 52 j < 4 := fun j => by rw [c52]; exact (AI_bk h j).1
    refine cnt_loop (d := d + 2) (M' := M') (k := k) (best := best) (P := LsP S M k) (fun j a b => hdig j a b) on52 ?_ 8 0 rfl
    rw [c52]
    repeat (refine gV_s rfl (by first | exact trivial | omega) ?_)
    refine gV_i rfl (by unfold rng; omega) (fun h1 => ?_) (fun h1 => ?_)
    · exact look (by rw [if_pos h1]; omega)
    · repeat (refine gV_s rfl (by first | exact trivial | omega) ?_)
      refine gV_i rfl (by unfold rng; omega) (fun h2 => ?_) (fun h2 => ?_)
      · refine skip (fun s hs _ => ?_) _ _
        rw [if_neg h1, hsame s hs.1 hs.2]
        exact h2
      · exact look (by rw [if_neg h1]; omega)
