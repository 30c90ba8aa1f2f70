/-! The reference: what it tells. -/
theorem dMr {S M : Mem} {v v' B : Int} (h : v = v') (hR : RM S M B) : dM (v', S) M B (vI v) M := by subst h; exact dM0 rfl hR
theorem ok_mLetter {d : Nat} {S M : Mem} {B i w : Int} (h : NI S) (hi : rng i) (hw : rng w) (hR : RM S M B) : gOk mX7_letter (d + 1) [vR 47, vI i, vI w] M (dM (rLetter S i w, S) M B) := by
  have hn := h.1.2.2.1
  have e16 : M 47 16 = S 4 0 := hR.s16
  refine gOk_of mX7_letter_ok (by simp) (Nat.le_of_ble_eq_true rfl) ?_
  repeat (refine gV_s rfl (by first | exact trivial | omega) ?_)
  rw [e16]
  refine gV_cS (ok_in (d := d) (M := M) hi (by unfold rng; omega) (by unfold rng; omega)) mX7_in_ok sX7_X7_in rfl rfl rfl rfl ?_
  rintro r M' ⟨rfl, ⟨h1, rfl⟩ | ⟨h1, rfl⟩⟩
  · refine gV_in rfl (by unfold rng; omega) (by omega) ?_
    have e : rLetter S i w = (if w = 0 then S 31 i else if w = 1 then S 32 i else if w = 2 then S 33 i else if w = 3 then S 34 i else if w = 4 then S 35 i else if w = 5 then S 36 i else if w = 6 then S 37 i else if w = 7 then S 38 i else if w = 8 then S 39 i else -2) := by unfold rLetter; rw [if_pos (by omega)]
    rw [e]
    by_cases hc : 0 ≤ w ∧ w ≤ 8
    · have hcs : w = 0 ∨ w = 1 ∨ w = 2 ∨ w = 3 ∨ w = 4 ∨ w = 5 ∨ w = 6 ∨ w = 7 ∨ w = 8 := by omega
      rcases hcs with rfl | rfl | rfl | rfl | rfl | rfl | rfl | rfl | rfl
      · repeat (refine gV_s rfl (by first | exact trivial | omega) ?_)
        refine gV_swIn 68 rfl (by unfold rng; omega) (by decide) (by decide) rfl (by decide) ?_
        repeat (refine gV_s rfl (by first | exact trivial | omega) ?_)
        exact gV_ret rfl trivial (dMr (by rw [hR.e58]; rfl) hR)
      · repeat (refine gV_s rfl (by first | exact trivial | omega) ?_)
        refine gV_swIn 75 rfl (by unfold rng; omega) (by decide) (by decide) rfl (by decide) ?_
        repeat (refine gV_s rfl (by first | exact trivial | omega) ?_)
        exact gV_ret rfl trivial (dMr (by rw [hR.e59]; rfl) hR)
      · repeat (refine gV_s rfl (by first | exact trivial | omega) ?_)
        refine gV_swIn 82 rfl (by unfold rng; omega) (by decide) (by decide) rfl (by decide) ?_
        repeat (refine gV_s rfl (by first | exact trivial | omega) ?_)
        exact gV_ret rfl trivial (dMr (by rw [hR.e60]; rfl) hR)
      · repeat (refine gV_s rfl (by first | exact trivial | omega) ?_)
        refine gV_swIn 89 rfl (by unfold rng; omega) (by decide) (by decide) rfl (by decide) ?_
        repeat (refine gV_s rfl (by first | exact trivial | omega) ?_)
        exact gV_ret rfl trivial (dMr (by rw [hR.e61]; rfl) hR)
      · repeat (refine gV_s rfl (by first | exact trivial | omega) ?_)
        refine gV_swIn 96 rfl (by unfold rng; omega) (by decide) (by decide) rfl (by decide) ?_
        repeat (refine gV_s rfl (by first | exact trivial | omega) ?_)
        exact gV_ret rfl trivial (dMr (by rw [hR.e62]; rfl) hR)
      · repeat (refine gV_s rfl (by first | exact trivial | omega) ?_)
        refine gV_swIn 103 rfl (by unfold rng; omega) (by decide) (by decide) rfl (by decide) ?_
        repeat (refine gV_s rfl (by first | exact trivial | omega) ?_)
        exact gV_ret rfl trivial (dMr (by rw [hR.e63]; rfl) hR)
      · repeat (refine gV_s rfl (by first | exact trivial | omega) ?_)
        refine gV_swIn 110 rfl (by unfold rng; omega) (by decide) (by decide) rfl (by decide) ?_
        repeat (refine gV_s rfl (by first | exact trivial | omega) ?_)
        exact gV_ret rfl trivial (dMr (by rw [hR.e64]; rfl) hR)
      · repeat (refine gV_s rfl (by first | exact trivial | omega) ?_)
        refine gV_swIn 117 rfl (by unfold rng; omega) (by decide) (by decide) rfl (by decide) ?_
        repeat (refine gV_s rfl (by first | exact trivial | omega) ?_)
        exact gV_ret rfl trivial (dMr (by rw [hR.e65]; rfl) hR)
      · repeat (refine gV_s rfl (by first | exact trivial | omega) ?_)
        refine gV_swIn 124 rfl (by unfold rng; omega) (by decide) (by decide) rfl (by decide) ?_
        repeat (refine gV_s rfl (by first | exact trivial | omega) ?_)
        exact gV_ret rfl trivial (dMr (by rw [hR.e66]; rfl) hR)
    · repeat (refine gV_s rfl (by first | exact trivial | omega) ?_)
      refine gV_swOut 131 rfl hw (by omega) (by decide) ?_
      repeat (refine gV_s rfl (by first | exact trivial | omega) ?_)
      refine gV_ret rfl trivial (dMr ?_ hR)
      simp only [show ¬ w = 0 by omega, show ¬ w = 1 by omega, show ¬ w = 2 by omega, show ¬ w = 3 by omega, show ¬ w = 4 by omega, show ¬ w = 5 by omega, show ¬ w = 6 by omega, show ¬ w = 7 by omega, show ¬ w = 8 by omega, if_false]
  · refine gV_it rfl (by unfold rng; omega) rfl ?_
    repeat (refine gV_s rfl (by first | exact trivial | omega) ?_)
    exact gV_ret rfl trivial (dMr (by unfold rLetter; rw [if_neg (by omega)]) hR)
theorem mrate_loop {d : Nat} {S M : Mem} {lo : Int → Int} {x B b : Int} {P : PV → Mem → Prop} (h : AI S lo x) (hR : RM S M B) (hB : B ≤ 2000000000) (hb : rng b) (hP : P (vI (rates S b)) M) : ∀ (n k : Nat), (k : Int) + n = S 3 0 → gV mX7_rates (d + 1) P 9 [vR 47, vI b, vI (sm (rtB S b) k), vI k] [vI (S 3 0), vI k] M
  | 0, k, hk => by
    have hF := h.1.2.1
    have e : k = (S 3 0).toNat := by omega
    refine gV_it rfl (by unfold rng; omega) (by omega) ?_
    repeat (refine gV_s rfl (by first | exact trivial | omega) ?_)
    unfold rates at hP
    rw [← e] at hP
    exact gV_ret rfl trivial hP
  | n + 1, k, hk => by
    have hF := h.1.2.1
    have hMM := MR_of h hR hB
    have hbk := bkO_in h (f := k) (by omega) (by omega)
    have ih := mrate_loop (d := d) h hR hB hb hP n (k + 1) (by push_cast; omega)
    rw [sm_s] at ih
    refine gV_in rfl (by unfold rng; omega) (by omega) ?_
    repeat (refine gV_s rfl (by first | exact trivial | omega) ?_)
    refine gV_cV (ok_bucketNow (d := d) (P := fun r M' => r = vI (bkO S k) ∧ M' = M) (f := k) hMM (by omega) (by omega) ⟨by rw [bkM_eq h hR], rfl⟩) mX7_bucketNow_ok sX7_X7_bucketNow rfl rfl rfl rfl rfl rfl ?_
    rintro r M' ⟨rfl, rfl⟩
    unfold rng at hb
    repeat (refine gV_s rfl (by first | exact trivial | omega) ?_)
    refine gV_i rfl (by unfold rng; omega) (fun h2 => ?_) (fun h2 => ?_)
    · rw [show rtB S b k = S 24 k by unfold rtB; rw [if_pos h2]] at ih
      repeat (refine gV_s rfl (by first | exact trivial | omega) ?_)
      rw [hR.e56, hR.s10]
      exact ih
    · rw [show rtB S b k = 0 by unfold rtB; rw [if_neg h2], Int.add_zero] at ih
      repeat (refine gV_s rfl (by first | exact trivial | omega) ?_)
      rw [hR.s10, Int.add_zero]
      exact ih
theorem ok_mRates {d : Nat} {S M : Mem} {lo : Int → Int} {x B b : Int} {P : PV → Mem → Prop} (h : AI S lo x) (hR : RM S M B) (hB : B ≤ 2000000000) (hb : rng b) (hP : P (vI (rates S b)) M) : gOk mX7_rates (d + 1) [vR 47, vI b] M P := by
  have hF := h.1.2.1
  refine gOk_of mX7_rates_ok (by simp) (Nat.le_of_ble_eq_true rfl) ?_
  repeat (refine gV_s rfl (by first | exact trivial | omega) ?_)
  rw [hR.s10]
  exact mrate_loop h hR hB hb hP (S 3 0).toNat 0 (by omega)
theorem sm_add (f g : Int → Int) : ∀ n, sm (fun i => f i + g i) n = sm f n + sm g n
  | 0 => rfl
  | n + 1 => by simp only [sm]; rw [sm_add f g n]; omega
theorem sm_cong {f g : Int → Int} : ∀ {n : Nat}, (∀ i : Int, 0 ≤ i → i < n → f i = g i) → sm f n = sm g n
  | 0, _ => rfl
  | n + 1, h => by simp only [sm]; rw [sm_cong (n := n) (fun i a b => h i a (by omega)), h n (by omega) (by omega)]
theorem sm_one {a : Int} {v : Int → Int} : ∀ {n : Nat}, 0 ≤ a → sm (fun b => if b = a then v b else 0) n = if a < n then v a else 0
  | 0, h => by rw [if_neg (by omega)]; rfl
  | n + 1, h => by
    simp only [sm]
    rw [sm_one (n := n) h]
    by_cases e : (n : Int) = a
    · rw [if_neg (by omega), if_pos e, if_pos (by omega), e]; omega
    · rw [if_neg e]
      by_cases e2 : a < n
      · rw [if_pos e2, if_pos (by omega)]; omega
      · rw [if_neg e2, if_neg (by omega)]; rfl
/-- a link's load, by buckets -/
def ldB (S : Mem) (l : Int) : Int → Int := fun b => if S 19 b = l then rates S b else 0
theorem load_eq {S : Mem} {lo : Int → Int} {x : Int} (h : AI S lo x) (l : Int) : sm (ldB S l) 8 = load S l := by
  have hF := h.1.2.1
  have key : ∀ n : Nat, n ≤ 16 → sm (fun b => if S 19 b = l then sm (rtB S b) n else 0) 8 = sm (ldL S l) n := by
    intro n
    induction n with
    | zero => intro _; simp [sm]
    | succ n ih =>
      intro hn
      rw [sm_s (ldL S l) n, ← ih (by omega)]
      have hb := bkO_in h (f := n) (by omega) (by omega)
      have e1 : ldL S l n = sm (fun b => if b = bkO S n then (if S 19 b = l then S 24 n else 0) else 0) 8 := by
        rw [sm_one hb.1, if_pos (by omega)]
        rfl
      rw [e1, ← sm_add]
      refine sm_cong (fun b _ _ => ?_)
      unfold rtB
      simp only [sm]
      by_cases c1 : S 19 b = l <;> by_cases c2 : b = bkO S n
      · rw [if_pos c1, if_pos c1, if_pos c2, if_pos c2.symm, if_pos c1]
      · rw [if_pos c1, if_pos c1, if_neg c2, if_neg (fun q => c2 q.symm)]
      · rw [if_neg c1, if_neg c1, if_pos c2, if_neg c1]; rfl
      · rw [if_neg c1, if_neg c1, if_neg c2]; rfl
  exact key (S 3 0).toNat (by omega)
theorem mload_loop {d : Nat} {S M : Mem} {lo : Int → Int} {x B l : Int} {P : PV → Mem → Prop} (h : AI S lo x) (hR : RM S M B) (hB : B ≤ 2000000000) (hl : rng l) (hP : P (vI (load S l)) M) : ∀ (n k : Nat), k + n = 8 → gV mX7_load (d + 2) P 7 [vR 47, vI l, vI (sm (ldB S l) k), vI k] [vI 8, vI k] M
  | 0, k, hk => by
    have e : k = 8 := by omega
    subst e
    refine gV_it rfl (by unfold rng; omega) (by omega) ?_
    repeat (refine gV_s rfl (by first | exact trivial | omega) ?_)
    rw [load_eq h]
    exact gV_ret rfl trivial hP
  | n + 1, k, hk => by
    have hbk := AI_bk h k
    have ih := mload_loop (d := d) h hR hB hl hP n (k + 1) (by omega)
    rw [sm_s] at ih
    have e52 : M 52 k = S 19 k := by rw [hR.e52]
    refine gV_in rfl (by unfold rng; omega) (by omega) ?_
    unfold rng at hl
    repeat (refine gV_s rfl (by first | exact trivial | omega) ?_)
    rw [e52]
    refine gV_i rfl (by unfold rng; omega) (fun h2 => ?_) (fun h2 => ?_)
    · rw [show ldB S l k = rates S k by unfold ldB; rw [if_pos h2]] at ih
      repeat (refine gV_s rfl (by first | exact trivial | omega) ?_)
      refine gV_cV (ok_mRates (d := d) (P := fun r M' => r = vI (rates S k) ∧ M' = M) (b := k) h hR hB (by unfold rng; omega) ⟨rfl, rfl⟩) mX7_rates_ok sX7_X7_rates rfl rfl rfl rfl rfl rfl ?_
      rintro r M' ⟨rfl, rfl⟩
      repeat (refine gV_s rfl (by first | exact trivial | omega) ?_)
      exact ih
    · rw [show ldB S l k = 0 by unfold ldB; rw [if_neg h2], Int.add_zero] at ih
      repeat (refine gV_s rfl (by first | exact trivial | omega) ?_)
      rw [Int.add_zero]
      exact ih
theorem ok_mLoad {d : Nat} {S M : Mem} {lo : Int → Int} {x B l : Int} {P : PV → Mem → Prop} (h : AI S lo x) (hR : RM S M B) (hB : B ≤ 2000000000) (hl : rng l) (hP : P (vI (load S l)) M) : gOk mX7_load (d + 2) [vR 47, vI l] M P := by
  refine gOk_of mX7_load_ok (by simp) (Nat.le_of_ble_eq_true rfl) ?_
  repeat (refine gV_s rfl (by first | exact trivial | omega) ?_)
  exact mload_loop h hR hB hl hP 8 0 rfl
theorem cin_l {S M : Mem} {lo : Int → Int} {x B l s : Int} (hR : RM S M B) (l0 : 0 ≤ l) : ct (cIn M s l) (M 47 16).toNat = ct (fun j => decide (S 34 j = s ∧ S 35 j = l)) (S 4 0).toNat := by
  rw [hR.s16]
  exact ct_cong (fun j _ _ => by unfold cIn; rw [hR.e61, hR.e62]; simp [show ¬ l < 0 by omega])
theorem cin_a {S M : Mem} {lo : Int → Int} {x B s : Int} (h : AI S lo x) (hR : RM S M B) (s0 : 0 ≤ s) (s6 : s < 6) : ct (cIn M s (-1)) (M 47 16).toNat = S 41 s := by
  rw [hR.s16, h.2.2.2.2.2.2.2.1 s s0 s6]
  exact ct_cong (fun j _ _ => by unfold cIn; rw [hR.e61]; simp)
theorem cfl_a {S M : Mem} {lo : Int → Int} {x B f : Int} (h : AI S lo x) (hR : RM S M B) (f0 : 0 ≤ f) (f1 : f < 16) : ct (cFl M f (-1)) (M 47 16).toNat = S 26 f ∧ ct (cFl M f 4) (M 47 16).toNat = S 27 f ∧ ct (cFl M f 5) (M 47 16).toNat = S 28 f := by
  obtain ⟨a1, a2, a3⟩ := h.2.2.2.2.2.2.2.2.2.1 f f0 f1
  rw [hR.s16, a1, a2, a3]
  refine ⟨ct_cong (fun j _ _ => ?_), ct_cong (fun j _ _ => ?_), ct_cong (fun j _ _ => ?_)⟩
  · unfold cFl; rw [hR.e58]; simp
  · unfold cFl; rw [hR.e58, hR.e61]; simp [and_comm]
  · unfold cFl; rw [hR.e58, hR.e61]; simp [and_comm]
theorem chd_a {S M : Mem} {lo : Int → Int} {x B b : Int} (h : AI S lo x) (hR : RM S M B) (b0 : 0 ≤ b) (b8 : b < 8) : ct (cHd M b) (M 47 16).toNat = S 22 b := by
  rw [hR.s16, h.2.2.2.2.2.2.2.2.1 b b0 b8]
  exact ct_cong (fun j _ _ => by unfold cHd; rw [hR.e61, hR.e60])
theorem ok_mAbout {d : Nat} {S M : Mem} {B l w : Int} (h : NI S) (hl : rng l) (hw : rng w) (hR : RM S M B) (hB : B + 1700000 ≤ 2000000000) : gOk mX7_about (d + 3) [vR 47, vI l, vI w] M (dM (rAbout S l w, S) M B) := by
  have hMM := MR_of h hR (by omega)
  have hL := h.1.1
  refine gOk_of mX7_about_ok (by simp) (Nat.le_of_ble_eq_true rfl) ?_
  repeat (refine gV_s rfl (by first | exact trivial | omega) ?_)
  refine gV_cV (ok_isLink (d := d + 1) (M := M) hMM hl) mX7_isLink_ok sX7_X7_isLink rfl rfl rfl rfl rfl rfl ?_
  rintro r M' ⟨rfl, ⟨h1, rfl⟩ | ⟨h1, rfl⟩⟩
  · rw [hR.s1] at h1
    refine gV_in rfl (by unfold rng; omega) (by omega) ?_
    have hup := h.2.1.2.1 l
    have kl := h.2.2.2.2.2.2.2.2.2.2.1 l h1.1 (by omega)
    have e50 : M' 50 l = S 9 l := by rw [hR.e50]
    have e : rAbout S l w = (if w = 0 then S 7 l else if w = 1 then S 8 l else if w = 2 then S 9 l else if w = 3 then S 17 l - S 16 l else if w = 4 then S 16 l - S 15 l else if w = 5 then ct (is_ (S 19) l) 8 else if w = 6 then load S l else if w = 7 then S 18 l else -2) := by unfold rAbout; rw [if_pos h1]
    rw [e]
    by_cases hc : 0 ≤ w ∧ w ≤ 7
    · have hcs : w = 0 ∨ w = 1 ∨ w = 2 ∨ w = 3 ∨ w = 4 ∨ w = 5 ∨ w = 6 ∨ w = 7 := by omega
      rcases hcs with rfl | rfl | rfl | rfl | rfl | rfl | rfl | rfl
      · repeat (refine gV_s rfl (by first | exact trivial | omega) ?_)
        refine gV_swIn 56 rfl (by unfold rng; omega) (by decide) (by decide) rfl (by decide) ?_
        repeat (refine gV_s rfl (by first | exact trivial | omega) ?_)
        exact gV_ret rfl trivial (dMr (by rw [hR.e48]; rfl) hR)
      · repeat (refine gV_s rfl (by first | exact trivial | omega) ?_)
        refine gV_swIn 63 rfl (by unfold rng; omega) (by decide) (by decide) rfl (by decide) ?_
        repeat (refine gV_s rfl (by first | exact trivial | omega) ?_)
        exact gV_ret rfl trivial (dMr (by rw [hR.e49]; rfl) hR)
      · repeat (refine gV_s rfl (by first | exact trivial | omega) ?_)
        refine gV_swIn 70 rfl (by unfold rng; omega) (by decide) (by decide) rfl (by decide) ?_
        repeat (refine gV_s rfl (by first | exact trivial | omega) ?_)
        rw [e50]
        refine gV_i rfl (by unfold rng; omega) (fun h2 => ?_) (fun h2 => ?_)
        · repeat (refine gV_s rfl (by first | exact trivial | omega) ?_)
          exact gV_ret rfl trivial (dMr h2.symm hR)
        · repeat (refine gV_s rfl (by first | exact trivial | omega) ?_)
          exact gV_ret rfl trivial (dMr (show (1 : Int) = S 9 l by omega) hR)
      · repeat (refine gV_s rfl (by first | exact trivial | omega) ?_)
        refine gV_swIn 85 rfl (by unfold rng; omega) (by decide) (by decide) rfl (by decide) ?_
        repeat (refine gV_s rfl (by first | exact trivial | omega) ?_)
        refine gV_cV (ok_inState (d := d + 2) (M := M') (s := 1) (l := l) (P := fun r M2 => r = vI (S 17 l - S 16 l) ∧ M2 = M') hMM (by unfold rng; omega) hl ⟨by rw [cin_l (lo := fun _ => 0) (x := 0) hR h1.1, kl.2.1], rfl⟩) mX7_inState_ok sX7_X7_inState rfl rfl rfl rfl rfl rfl ?_
        rintro r M2 ⟨rfl, rfl⟩
        exact gV_ret rfl trivial (dMr rfl hR)
      · repeat (refine gV_s rfl (by first | exact trivial | omega) ?_)
        refine gV_swIn 92 rfl (by unfold rng; omega) (by decide) (by decide) rfl (by decide) ?_
        repeat (refine gV_s rfl (by first | exact trivial | omega) ?_)
        refine gV_cV (ok_inState (d := d + 2) (M := M') (s := 2) (l := l) (P := fun r M2 => r = vI (S 16 l - S 15 l) ∧ M2 = M') hMM (by unfold rng; omega) hl ⟨by rw [cin_l (lo := fun _ => 0) (x := 0) hR h1.1, kl.2.2], rfl⟩) mX7_inState_ok sX7_X7_inState rfl rfl rfl rfl rfl rfl ?_
        rintro r M2 ⟨rfl, rfl⟩
        exact gV_ret rfl trivial (dMr rfl hR)
      · repeat (refine gV_s rfl (by first | exact trivial | omega) ?_)
        refine gV_swIn 99 rfl (by unfold rng; omega) (by decide) (by decide) rfl (by decide) ?_
        repeat (refine gV_s rfl (by first | exact trivial | omega) ?_)
        refine gV_cV (ok_bucketsOn (d := d + 2) (M := M') (l := l) (P := fun r M2 => r = vI (ct (is_ (S 19) l) 8) ∧ M2 = M') hMM hl ⟨by rw [hR.e52], rfl⟩) mX7_bucketsOn_ok sX7_X7_bucketsOn rfl rfl rfl rfl rfl rfl ?_
        rintro r M2 ⟨rfl, rfl⟩
        exact gV_ret rfl trivial (dMr rfl hR)
      · repeat (refine gV_s rfl (by first | exact trivial | omega) ?_)
        refine gV_swIn 105 rfl (by unfold rng; omega) (by decide) (by decide) rfl (by decide) ?_
        repeat (refine gV_s rfl (by first | exact trivial | omega) ?_)
        refine gV_cV (ok_mLoad (d := d) (M := M') (l := l) (P := fun r M2 => r = vI (load S l) ∧ M2 = M') h hR (by omega) hl ⟨rfl, rfl⟩) mX7_load_ok sX7_X7_load rfl rfl rfl rfl rfl rfl ?_
        rintro r M2 ⟨rfl, rfl⟩
        exact gV_ret rfl trivial (dMr rfl hR)
      · repeat (refine gV_s rfl (by first | exact trivial | omega) ?_)
        refine gV_swIn 111 rfl (by unfold rng; omega) (by decide) (by decide) rfl (by decide) ?_
        repeat (refine gV_s rfl (by first | exact trivial | omega) ?_)
        exact gV_ret rfl trivial (dMr (by rw [hR.e51]; rfl) hR)
    · repeat (refine gV_s rfl (by first | exact trivial | omega) ?_)
      refine gV_swOut 118 rfl hw (by omega) (by decide) ?_
      repeat (refine gV_s rfl (by first | exact trivial | omega) ?_)
      refine gV_ret rfl trivial (dMr ?_ hR)
      simp only [show ¬ w = 0 by omega, show ¬ w = 1 by omega, show ¬ w = 2 by omega, show ¬ w = 3 by omega, show ¬ w = 4 by omega, show ¬ w = 5 by omega, show ¬ w = 6 by omega, show ¬ w = 7 by omega, if_false]
  · rw [hR.s1] at h1
    refine gV_it rfl (by unfold rng; omega) rfl ?_
    repeat (refine gV_s rfl (by first | exact trivial | omega) ?_)
    exact gV_ret rfl trivial (dMr (by unfold rAbout; rw [if_neg h1]) hR)
theorem ok_mBucket {d : Nat} {S M : Mem} {B b w : Int} (h : NI S) (hb : rng b) (hw : rng w) (hR : RM S M B) (hB : B + 1700000 ≤ 2000000000) : gOk mX7_bucket (d + 2) [vR 47, vI b, vI w] M (dM (rBucket S b w, S) M B) := by
  have hMM := MR_of h hR (by omega)
  refine gOk_of mX7_bucket_ok (by simp) (Nat.le_of_ble_eq_true rfl) ?_
  repeat (refine gV_s rfl (by first | exact trivial | omega) ?_)
  refine gV_cS (ok_isBucket (d := d) (M := M) hb) mX7_isBucket_ok sX7_X7_isBucket rfl rfl rfl rfl ?_
  rintro r M' ⟨rfl, ⟨h1, rfl⟩ | ⟨h1, rfl⟩⟩
  · refine gV_in rfl (by unfold rng; omega) (by omega) ?_
    have hbk := h.2.2.1 b
    have e54 : M' 54 b = S 21 b := by rw [hR.e54]
    have e : rBucket S b w = (if w = 0 then S 19 b else if w = 1 then S 20 b else if w = 2 then S 21 b else if w = 3 then S 22 b else if w = 4 then rates S b else if w = 5 then S 23 b else -2) := by unfold rBucket; rw [if_pos h1]
    rw [e]
    by_cases hc : 0 ≤ w ∧ w ≤ 5
    · have hcs : w = 0 ∨ w = 1 ∨ w = 2 ∨ w = 3 ∨ w = 4 ∨ w = 5 := by omega
      rcases hcs with rfl | rfl | rfl | rfl | rfl | rfl
      · repeat (refine gV_s rfl (by first | exact trivial | omega) ?_)
        refine gV_swIn 48 rfl (by unfold rng; omega) (by decide) (by decide) rfl (by decide) ?_
        repeat (refine gV_s rfl (by first | exact trivial | omega) ?_)
        exact gV_ret rfl trivial (dMr (by rw [hR.e52]; rfl) hR)
      · repeat (refine gV_s rfl (by first | exact trivial | omega) ?_)
        refine gV_swIn 55 rfl (by unfold rng; omega) (by decide) (by decide) rfl (by decide) ?_
        repeat (refine gV_s rfl (by first | exact trivial | omega) ?_)
        exact gV_ret rfl trivial (dMr (by rw [hR.e53]; rfl) hR)
      · repeat (refine gV_s rfl (by first | exact trivial | omega) ?_)
        refine gV_swIn 62 rfl (by unfold rng; omega) (by decide) (by decide) rfl (by decide) ?_
        repeat (refine gV_s rfl (by first | exact trivial | omega) ?_)
        rw [e54]
        refine gV_i rfl (by unfold rng; omega) (fun h2 => ?_) (fun h2 => ?_)
        · repeat (refine gV_s rfl (by first | exact trivial | omega) ?_)
          exact gV_ret rfl trivial (dMr h2.symm hR)
        · repeat (refine gV_s rfl (by first | exact trivial | omega) ?_)
          exact gV_ret rfl trivial (dMr (show (1 : Int) = S 21 b by omega) hR)
      · repeat (refine gV_s rfl (by first | exact trivial | omega) ?_)
        refine gV_swIn 77 rfl (by unfold rng; omega) (by decide) (by decide) rfl (by decide) ?_
        repeat (refine gV_s rfl (by first | exact trivial | omega) ?_)
        refine gV_cV (ok_held (d := d + 1) (M := M') (b := b) (P := fun r M2 => r = vI (S 22 b) ∧ M2 = M') hMM hb ⟨by rw [chd_a h hR h1.1 h1.2], rfl⟩) mX7_held_ok sX7_X7_held rfl rfl rfl rfl rfl rfl ?_
        rintro r M2 ⟨rfl, rfl⟩
        exact gV_ret rfl trivial (dMr rfl hR)
      · repeat (refine gV_s rfl (by first | exact trivial | omega) ?_)
        refine gV_swIn 83 rfl (by unfold rng; omega) (by decide) (by decide) rfl (by decide) ?_
        repeat (refine gV_s rfl (by first | exact trivial | omega) ?_)
        refine gV_cV (ok_mRates (d := d) (M := M') (b := b) (P := fun r M2 => r = vI (rates S b) ∧ M2 = M') h hR (by omega) hb ⟨rfl, rfl⟩) mX7_rates_ok sX7_X7_rates rfl rfl rfl rfl rfl rfl ?_
        rintro r M2 ⟨rfl, rfl⟩
        exact gV_ret rfl trivial (dMr rfl hR)
      · repeat (refine gV_s rfl (by first | exact trivial | omega) ?_)
        refine gV_swIn 89 rfl (by unfold rng; omega) (by decide) (by decide) rfl (by decide) ?_
        repeat (refine gV_s rfl (by first | exact trivial | omega) ?_)
        exact gV_ret rfl trivial (dMr (by rw [hR.e55]; rfl) hR)
    · repeat (refine gV_s rfl (by first | exact trivial | omega) ?_)
      refine gV_swOut 96 rfl hw (by omega) (by decide) ?_
      repeat (refine gV_s rfl (by first | exact trivial | omega) ?_)
      refine gV_ret rfl trivial (dMr ?_ hR)
      simp only [show ¬ w = 0 by omega, show ¬ w = 1 by omega, show ¬ w = 2 by omega, show ¬ w = 3 by omega, show ¬ w = 4 by omega, show ¬ w = 5 by omega, if_false]
  · refine gV_it rfl (by unfold rng; omega) rfl ?_
    repeat (refine gV_s rfl (by first | exact trivial | omega) ?_)
    exact gV_ret rfl trivial (dMr (by unfold rBucket; rw [if_neg h1]) hR)
theorem ok_mOfFlow {d : Nat} {S M : Mem} {B f w : Int} (h : NI S) (hf : rng f) (hw : rng w) (hR : RM S M B) (hB : B + 1700000 ≤ 2000000000) : gOk mX7_ofFlow (d + 2) [vR 47, vI f, vI w] M (dM (rOfFlow S f w, S) M B) := by
  have hMM := MR_of h hR (by omega)
  have hF := h.1.2.1
  refine gOk_of mX7_ofFlow_ok (by simp) (Nat.le_of_ble_eq_true rfl) ?_
  repeat (refine gV_s rfl (by first | exact trivial | omega) ?_)
  refine gV_cV (ok_isFlow (d := d) (M := M) hMM hf) mX7_isFlow_ok sX7_X7_isFlow rfl rfl rfl rfl rfl rfl ?_
  rintro r M' ⟨rfl, ⟨h1, rfl⟩ | ⟨h1, rfl⟩⟩
  · rw [hR.s10] at h1
    refine gV_in rfl (by unfold rng; omega) (by omega) ?_
    have hff := h.2.2.2.2.2.1 f
    have cf := cfl_a h hR h1.1 (show f < 16 by omega)
    have e57 : M' 57 f = S 25 f := by rw [hR.e57]
    have e : rOfFlow S f w = (if w = 0 then S 24 f else if w = 1 then bkO S f else if w = 2 then S 26 f else if w = 3 then S 27 f else if w = 4 then S 28 f else if w = 5 then (if S 25 f = -1 then 0 else 1) else -2) := by unfold rOfFlow; rw [if_pos h1]
    rw [e]
    by_cases hc : 0 ≤ w ∧ w ≤ 5
    · have hcs : w = 0 ∨ w = 1 ∨ w = 2 ∨ w = 3 ∨ w = 4 ∨ w = 5 := by omega
      rcases hcs with rfl | rfl | rfl | rfl | rfl | rfl
      · repeat (refine gV_s rfl (by first | exact trivial | omega) ?_)
        refine gV_swIn 48 rfl (by unfold rng; omega) (by decide) (by decide) rfl (by decide) ?_
        repeat (refine gV_s rfl (by first | exact trivial | omega) ?_)
        exact gV_ret rfl trivial (dMr (by rw [hR.e56]; rfl) hR)
      · repeat (refine gV_s rfl (by first | exact trivial | omega) ?_)
        refine gV_swIn 55 rfl (by unfold rng; omega) (by decide) (by decide) rfl (by decide) ?_
        repeat (refine gV_s rfl (by first | exact trivial | omega) ?_)
        refine gV_cV (ok_bucketNow (d := d + 1) (M := M') (f := f) (P := fun r M2 => r = vI (bkO S f) ∧ M2 = M') hMM h1.1 (by omega) ⟨by rw [bkM_eq h hR], rfl⟩) mX7_bucketNow_ok sX7_X7_bucketNow rfl rfl rfl rfl rfl rfl ?_
        rintro r M2 ⟨rfl, rfl⟩
        exact gV_ret rfl trivial (dMr rfl hR)
      · repeat (refine gV_s rfl (by first | exact trivial | omega) ?_)
        refine gV_swIn 61 rfl (by unfold rng; omega) (by decide) (by decide) rfl (by decide) ?_
        repeat (refine gV_s rfl (by first | exact trivial | omega) ?_)
        refine gV_cV (ok_ofFlowIn (d := d + 1) (M := M') (f := f) (s := -1) (P := fun r M2 => r = vI (S 26 f) ∧ M2 = M') hMM hf (by unfold rng; omega) ⟨by rw [cf.1], rfl⟩) mX7_ofFlowIn_ok sX7_X7_ofFlowIn rfl rfl rfl rfl rfl rfl ?_
        rintro r M2 ⟨rfl, rfl⟩
        exact gV_ret rfl trivial (dMr rfl hR)
      · repeat (refine gV_s rfl (by first | exact trivial | omega) ?_)
        refine gV_swIn 68 rfl (by unfold rng; omega) (by decide) (by decide) rfl (by decide) ?_
        repeat (refine gV_s rfl (by first | exact trivial | omega) ?_)
        refine gV_cV (ok_ofFlowIn (d := d + 1) (M := M') (f := f) (s := 4) (P := fun r M2 => r = vI (S 27 f) ∧ M2 = M') hMM hf (by unfold rng; omega) ⟨by rw [cf.2.1], rfl⟩) mX7_ofFlowIn_ok sX7_X7_ofFlowIn rfl rfl rfl rfl rfl rfl ?_
        rintro r M2 ⟨rfl, rfl⟩
        exact gV_ret rfl trivial (dMr rfl hR)
      · repeat (refine gV_s rfl (by first | exact trivial | omega) ?_)
        refine gV_swIn 75 rfl (by unfold rng; omega) (by decide) (by decide) rfl (by decide) ?_
        repeat (refine gV_s rfl (by first | exact trivial | omega) ?_)
        refine gV_cV (ok_ofFlowIn (d := d + 1) (M := M') (f := f) (s := 5) (P := fun r M2 => r = vI (S 28 f) ∧ M2 = M') hMM hf (by unfold rng; omega) ⟨by rw [cf.2.2], rfl⟩) mX7_ofFlowIn_ok sX7_X7_ofFlowIn rfl rfl rfl rfl rfl rfl ?_
        rintro r M2 ⟨rfl, rfl⟩
        exact gV_ret rfl trivial (dMr rfl hR)
      · repeat (refine gV_s rfl (by first | exact trivial | omega) ?_)
        refine gV_swIn 82 rfl (by unfold rng; omega) (by decide) (by decide) rfl (by decide) ?_
        repeat (refine gV_s rfl (by first | exact trivial | omega) ?_)
        rw [e57]
        refine gV_i rfl (by unfold rng; omega) (fun h2 => ?_) (fun h2 => ?_)
        · repeat (refine gV_s rfl (by first | exact trivial | omega) ?_)
          exact gV_ret rfl trivial (dMr (show (0 : Int) = (if S 25 f = -1 then 0 else 1) by rw [if_pos (by omega)]) hR)
        · repeat (refine gV_s rfl (by first | exact trivial | omega) ?_)
          exact gV_ret rfl trivial (dMr (show (1 : Int) = (if S 25 f = -1 then 0 else 1) by rw [if_neg (by omega)]) hR)
    · repeat (refine gV_s rfl (by first | exact trivial | omega) ?_)
      refine gV_swOut 97 rfl hw (by omega) (by decide) ?_
      repeat (refine gV_s rfl (by first | exact trivial | omega) ?_)
      refine gV_ret rfl trivial (dMr ?_ hR)
      simp only [show ¬ w = 0 by omega, show ¬ w = 1 by omega, show ¬ w = 2 by omega, show ¬ w = 3 by omega, show ¬ w = 4 by omega, show ¬ w = 5 by omega, if_false]
  · rw [hR.s10] at h1
    refine gV_it rfl (by unfold rng; omega) rfl ?_
    repeat (refine gV_s rfl (by first | exact trivial | omega) ?_)
    exact gV_ret rfl trivial (dMr (by unfold rOfFlow; rw [if_neg h1]) hR)
theorem ok_mOut {d : Nat} {S M : Mem} {B i : Int} (h : NI S) (hi : rng i) (hR : RM S M B) : gOk mX7_out (d + 1) [vR 47, vI i] M (dM (rOut S i, S) M B) := by
  have n4 := AI_ins h (s := 4) (by decide) (by decide)
  have e29 : M 47 29 = S 41 4 := hR.s29
  refine gOk_of mX7_out_ok (by simp) (Nat.le_of_ble_eq_true rfl) ?_
  repeat (refine gV_s rfl (by first | exact trivial | omega) ?_)
  rw [e29]
  refine gV_cS (ok_in (d := d) (M := M) hi (by unfold rng; omega) (by unfold rng; omega)) mX7_in_ok sX7_X7_in rfl rfl rfl rfl ?_
  rintro r M' ⟨rfl, ⟨h1, rfl⟩ | ⟨h1, rfl⟩⟩
  · refine gV_in rfl (by unfold rng; omega) (by omega) ?_
    repeat (refine gV_s rfl (by first | exact trivial | omega) ?_)
    exact gV_ret rfl trivial (dMr (by unfold rOut; rw [if_pos (by omega), hR.e69]) hR)
  · refine gV_it rfl (by unfold rng; omega) rfl ?_
    repeat (refine gV_s rfl (by first | exact trivial | omega) ?_)
    exact gV_ret rfl trivial (dMr (by unfold rOut; rw [if_neg (by omega)]) hR)
theorem mix_mono {out fl pl : Int → Int} {f : Int} : ∀ (n k : Nat), mixP out fl pl f k = true → mixP out fl pl f (k + n) = true
  | 0, k, h => h
  | n + 1, k, h => by
    have := mix_mono (out := out) (fl := fl) (pl := pl) (f := f) n k h
    rw [show k + (n + 1) = (k + n) + 1 by omega]
    unfold mixP
    rw [this]
    rfl
theorem ord_loop {d : Nat} {S M : Mem} {B f : Int} (h : NI S) (hR : RM S M B) (hf : rng f) (f0 : 0 ≤ f) (f1 : f < S 3 0) : ∀ (n k : Nat) (z : Int), (k : Int) + n = S 41 4 → mixP (S 40) (S 31) (S 32) f k = false → rng z → (∀ v, 0 ≤ v → (v < z ↔ v < lastP (S 40) (S 31) (S 32) f k)) →
    gV mX7_ordered d (dM (rOrdered S f, S) M B) 19 [vR 47, vI f, vI z, vI k] [vI (S 41 4), vI k] M
  | 0, k, z, hk, hm, hz, hl => by
    have n4 := AI_ins h (s := 4) (by decide) (by decide)
    have hmx := (h.2.2.2.2.2.2.2.2.2.2.2.2.2.2.1 f f0 f1).2
    have e : k = (S 41 4).toNat := by omega
    subst e
    refine gV_it rfl (by unfold rng; omega) (by omega) ?_
    repeat (refine gV_s rfl (by first | exact trivial | omega) ?_)
    refine gV_ret rfl trivial (dMr ?_ hR)
    unfold rOrdered
    rw [if_pos ⟨f0, f1⟩, hmx, hm, if_pos (by rfl)]
  | n + 1, k, z, hk, hm, hz, hl => by
    have n4 := AI_ins h (s := 4) (by decide) (by decide)
    have h4 := h.1.2.2.1
    have hmx := (h.2.2.2.2.2.2.2.2.2.2.2.2.2.2.1 f f0 f1).2
    have ho := h.2.2.2.2.2.2.2.2.2.2.2.2.2.1 k (by omega) (by omega)
    have ht := h.2.2.2.2.2.2.1 (S 40 k)
    have e69 : M 69 k = S 40 k := by rw [hR.e69]
    have e58 : M 58 (S 40 k) = S 31 (S 40 k) := by rw [hR.e58]
    have e59 : M 59 (S 40 k) = S 32 (S 40 k) := by rw [hR.e59]
    have hv := hl (S 32 (S 40 k)) (by omega)
    have stepM : mixP (S 40) (S 31) (S 32) f (k + 1) = (mixP (S 40) (S 31) (S 32) f k || (decide (S 31 (S 40 k) = f) && decide (S 32 (S 40 k) < lastP (S 40) (S 31) (S 32) f k))) := rfl
    have stepL : lastP (S 40) (S 31) (S 32) f (k + 1) = if S 31 (S 40 k) = f then S 32 (S 40 k) else lastP (S 40) (S 31) (S 32) f k := rfl
    refine gV_in rfl (by unfold rng; omega) (by omega) ?_
    repeat (refine gV_s rfl (by first | exact trivial | omega) ?_)
    rw [e69]
    repeat (refine gV_s rfl (by first | exact trivial | omega) ?_)
    rw [e58]
    refine gV_i rfl (by unfold rng at *; omega) (fun h2 => ?_) (fun h2 => ?_)
    · repeat (refine gV_s rfl (by first | exact trivial | omega) ?_)
      rw [e69]
      repeat (refine gV_s rfl (by first | exact trivial | omega) ?_)
      rw [e59]
      refine gV_i rfl (by unfold rng at *; omega) (fun h3 => ?_) (fun h3 => ?_)
      · have h3' : ¬ S 32 (S 40 k) < lastP (S 40) (S 31) (S 32) f k := fun q => by have := hv.mpr q; omega
        repeat (refine gV_s rfl (by first | exact trivial | omega) ?_)
        rw [e69]
        repeat (refine gV_s rfl (by first | exact trivial | omega) ?_)
        rw [e59, hR.s29]
        refine ord_loop h hR hf f0 f1 n (k + 1) (S 32 (S 40 k)) (by push_cast; omega) (by rw [stepM, hm]; simp [h3']) (by unfold rng; omega) (fun v _ => by rw [stepL, if_pos h2])
      · have h3' : S 32 (S 40 k) < lastP (S 40) (S 31) (S 32) f k := hv.mp (by omega)
        repeat (refine gV_s rfl (by first | exact trivial | omega) ?_)
        refine gV_ret rfl trivial (dMr ?_ hR)
        have hm1 : mixP (S 40) (S 31) (S 32) f (k + 1) = true := by rw [stepM]; simp [h2, h3']
        have hm2 := mix_mono n (k + 1) hm1
        rw [show k + 1 + n = (S 41 4).toNat by omega] at hm2
        unfold rOrdered
        rw [if_pos ⟨f0, f1⟩, hmx, hm2, if_neg (by decide)]
    · repeat (refine gV_s rfl (by first | exact trivial | omega) ?_)
      rw [hR.s29]
      refine ord_loop h hR hf f0 f1 n (k + 1) z (by push_cast; omega) (by rw [stepM, hm]; simp [h2]) hz (fun v hv0 => by rw [stepL, if_neg h2]; exact hl v hv0)
theorem ok_mOrdered {d : Nat} {S M : Mem} {B f : Int} (h : NI S) (hf : rng f) (hR : RM S M B) (hB : B + 1700000 ≤ 2000000000) : gOk mX7_ordered (d + 2) [vR 47, vI f] M (dM (rOrdered S f, S) M B) := by
  have hMM := MR_of h hR (by omega)
  have n4 := AI_ins h (s := 4) (by decide) (by decide)
  refine gOk_of mX7_ordered_ok (by simp) (Nat.le_of_ble_eq_true rfl) ?_
  repeat (refine gV_s rfl (by first | exact trivial | omega) ?_)
  refine gV_cV (ok_isFlow (d := d) (M := M) hMM hf) mX7_isFlow_ok sX7_X7_isFlow rfl rfl rfl rfl rfl rfl ?_
  rintro r M' ⟨rfl, ⟨h1, rfl⟩ | ⟨h1, rfl⟩⟩
  · rw [hR.s10] at h1
    refine gV_in rfl (by unfold rng; omega) (by omega) ?_
    repeat (refine gV_s rfl (by first | exact trivial | omega) ?_)
    rw [hR.s29]
    exact ord_loop h hR hf h1.1 h1.2 (S 41 4).toNat 0 (-1) (by omega) rfl (by unfold rng; omega) (fun v v0 => by unfold lastP; omega)
  · rw [hR.s10] at h1
    refine gV_it rfl (by unfold rng; omega) rfl ?_
    repeat (refine gV_s rfl (by first | exact trivial | omega) ?_)
    exact gV_ret rfl trivial (dMr (by unfold rOrdered; rw [if_neg h1]) hR)
theorem ok_mTold {d : Nat} {S M : Mem} {B w : Int} (h : NI S) (hw : rng w) (hR : RM S M B) (hB : B + 1700000 ≤ 2000000000) : gOk mX7_told (d + 1) [vR 47, vI w] M (dM (rTold S w, S) M B) := by
  have hMM := MR_of h hR (by omega)
  have hno := h.1.2.2.2.2.1
  have e15 : M 47 15 = S 5 1 := hR.s15
  refine gOk_of mX7_told_ok (by simp) (Nat.le_of_ble_eq_true rfl) ?_
  unfold rTold
  by_cases hc : 0 ≤ w ∧ w ≤ 10
  · have hcs : w = 0 ∨ w = 1 ∨ w = 2 ∨ w = 3 ∨ w = 4 ∨ w = 5 ∨ w = 6 ∨ w = 7 ∨ w = 8 ∨ w = 9 ∨ w = 10 := by omega
    rcases hcs with rfl | rfl | rfl | rfl | rfl | rfl | rfl | rfl | rfl | rfl | rfl
    · repeat (refine gV_s rfl (by first | exact trivial | omega) ?_)
      refine gV_swIn 60 rfl (by unfold rng; omega) (by decide) (by decide) rfl (by decide) ?_
      repeat (refine gV_s rfl (by first | exact trivial | omega) ?_)
      exact gV_ret rfl trivial (dMr (by rw [hR.s0]; rfl) hR)
    · repeat (refine gV_s rfl (by first | exact trivial | omega) ?_)
      refine gV_swIn 65 rfl (by unfold rng; omega) (by decide) (by decide) rfl (by decide) ?_
      repeat (refine gV_s rfl (by first | exact trivial | omega) ?_)
      exact gV_ret rfl trivial (dMr (by rw [hR.s1]; rfl) hR)
    · repeat (refine gV_s rfl (by first | exact trivial | omega) ?_)
      refine gV_swIn 70 rfl (by unfold rng; omega) (by decide) (by decide) rfl (by decide) ?_
      repeat (refine gV_s rfl (by first | exact trivial | omega) ?_)
      exact gV_ret rfl trivial (dMr (by rw [hR.s10]; rfl) hR)
    · repeat (refine gV_s rfl (by first | exact trivial | omega) ?_)
      refine gV_swIn 75 rfl (by unfold rng; omega) (by decide) (by decide) rfl (by decide) ?_
      repeat (refine gV_s rfl (by first | exact trivial | omega) ?_)
      exact gV_ret rfl trivial (dMr (by rw [hR.s16]; rfl) hR)
    · repeat (refine gV_s rfl (by first | exact trivial | omega) ?_)
      refine gV_swIn 80 rfl (by unfold rng; omega) (by decide) (by decide) rfl (by decide) ?_
      repeat (refine gV_s rfl (by first | exact trivial | omega) ?_)
      refine gV_cV (ok_inState (d := d) (M := M) (s := 0) (l := -1) (P := fun r M2 => r = vI (S 41 0) ∧ M2 = M) hMM (by unfold rng; omega) (by unfold rng; omega) ⟨by rw [cin_a h hR (by decide) (by decide)], rfl⟩) mX7_inState_ok sX7_X7_inState rfl rfl rfl rfl rfl rfl ?_
      rintro r M2 ⟨rfl, rfl⟩
      exact gV_ret rfl trivial (dMr rfl hR)
    · repeat (refine gV_s rfl (by first | exact trivial | omega) ?_)
      refine gV_swIn 87 rfl (by unfold rng; omega) (by decide) (by decide) rfl (by decide) ?_
      repeat (refine gV_s rfl (by first | exact trivial | omega) ?_)
      refine gV_cV (ok_inState (d := d) (M := M) (s := 1) (l := -1) (P := fun r M2 => r = vI (S 41 1) ∧ M2 = M) hMM (by unfold rng; omega) (by unfold rng; omega) ⟨by rw [cin_a h hR (by decide) (by decide)], rfl⟩) mX7_inState_ok sX7_X7_inState rfl rfl rfl rfl rfl rfl ?_
      rintro r M2 ⟨rfl, rfl⟩
      exact gV_ret rfl trivial (dMr rfl hR)
    · repeat (refine gV_s rfl (by first | exact trivial | omega) ?_)
      refine gV_swIn 94 rfl (by unfold rng; omega) (by decide) (by decide) rfl (by decide) ?_
      repeat (refine gV_s rfl (by first | exact trivial | omega) ?_)
      refine gV_cV (ok_inState (d := d) (M := M) (s := 2) (l := -1) (P := fun r M2 => r = vI (S 41 2) ∧ M2 = M) hMM (by unfold rng; omega) (by unfold rng; omega) ⟨by rw [cin_a h hR (by decide) (by decide)], rfl⟩) mX7_inState_ok sX7_X7_inState rfl rfl rfl rfl rfl rfl ?_
      rintro r M2 ⟨rfl, rfl⟩
      exact gV_ret rfl trivial (dMr rfl hR)
    · repeat (refine gV_s rfl (by first | exact trivial | omega) ?_)
      refine gV_swIn 101 rfl (by unfold rng; omega) (by decide) (by decide) rfl (by decide) ?_
      repeat (refine gV_s rfl (by first | exact trivial | omega) ?_)
      refine gV_cV (ok_inState (d := d) (M := M) (s := 3) (l := -1) (P := fun r M2 => r = vI (S 41 3) ∧ M2 = M) hMM (by unfold rng; omega) (by unfold rng; omega) ⟨by rw [cin_a h hR (by decide) (by decide)], rfl⟩) mX7_inState_ok sX7_X7_inState rfl rfl rfl rfl rfl rfl ?_
      rintro r M2 ⟨rfl, rfl⟩
      exact gV_ret rfl trivial (dMr rfl hR)
    · repeat (refine gV_s rfl (by first | exact trivial | omega) ?_)
      refine gV_swIn 108 rfl (by unfold rng; omega) (by decide) (by decide) rfl (by decide) ?_
      repeat (refine gV_s rfl (by first | exact trivial | omega) ?_)
      refine gV_cV (ok_inState (d := d) (M := M) (s := 4) (l := -1) (P := fun r M2 => r = vI (S 41 4) ∧ M2 = M) hMM (by unfold rng; omega) (by unfold rng; omega) ⟨by rw [cin_a h hR (by decide) (by decide)], rfl⟩) mX7_inState_ok sX7_X7_inState rfl rfl rfl rfl rfl rfl ?_
      rintro r M2 ⟨rfl, rfl⟩
      exact gV_ret rfl trivial (dMr rfl hR)
    · repeat (refine gV_s rfl (by first | exact trivial | omega) ?_)
      refine gV_swIn 115 rfl (by unfold rng; omega) (by decide) (by decide) rfl (by decide) ?_
      repeat (refine gV_s rfl (by first | exact trivial | omega) ?_)
      refine gV_cV (ok_inState (d := d) (M := M) (s := 5) (l := -1) (P := fun r M2 => r = vI (S 41 5) ∧ M2 = M) hMM (by unfold rng; omega) (by unfold rng; omega) ⟨by rw [cin_a h hR (by decide) (by decide)], rfl⟩) mX7_inState_ok sX7_X7_inState rfl rfl rfl rfl rfl rfl ?_
      rintro r M2 ⟨rfl, rfl⟩
      exact gV_ret rfl trivial (dMr rfl hR)
    · repeat (refine gV_s rfl (by first | exact trivial | omega) ?_)
      refine gV_swIn 122 rfl (by unfold rng; omega) (by decide) (by decide) rfl (by decide) ?_
      repeat (refine gV_s rfl (by first | exact trivial | omega) ?_)
      rw [e15]
      refine gV_i rfl (by unfold rng; omega) (fun h2 => ?_) (fun h2 => ?_)
      · repeat (refine gV_s rfl (by first | exact trivial | omega) ?_)
        exact gV_ret rfl trivial (dMr h2.symm hR)
      · repeat (refine gV_s rfl (by first | exact trivial | omega) ?_)
        exact gV_ret rfl trivial (dMr (show (1 : Int) = S 5 1 by omega) hR)
  · repeat (refine gV_s rfl (by first | exact trivial | omega) ?_)
    refine gV_swOut 135 rfl hw (by omega) (by decide) ?_
    repeat (refine gV_s rfl (by first | exact trivial | omega) ?_)
    refine gV_ret rfl trivial (dMr ?_ hR)
    simp only [show ¬ w = 0 by omega, show ¬ w = 1 by omega, show ¬ w = 2 by omega, show ¬ w = 3 by omega, show ¬ w = 4 by omega, show ¬ w = 5 by omega, show ¬ w = 6 by omega, show ¬ w = 7 by omega, show ¬ w = 8 by omega, show ¬ w = 9 by omega, show ¬ w = 10 by omega, if_false]
theorem ok_mPlan {d : Nat} {S M : Mem} {B b : Int} (h : NI S) (hb : rng b) (hR : RM S M B) : gOk mX7_plan (d + 2) [vR 47, vI b] M (dM (rPlan S b, S) M B) := by
  have hp := h.1.2.2.2.2.2.2.2
  have e31 : M 47 31 = S 6 0 := hR.s31
  refine gOk_of mX7_plan_ok (by simp) (Nat.le_of_ble_eq_true rfl) ?_
  repeat (refine gV_s rfl (by first | exact trivial | omega) ?_)
  refine gV_cS (ok_isBucket (d := d) (M := M) hb) mX7_isBucket_ok sX7_X7_isBucket rfl rfl rfl rfl ?_
  rintro r M' ⟨rfl, ⟨h1, rfl⟩ | ⟨h1, rfl⟩⟩
  · refine gV_in rfl (by unfold rng; omega) (by omega) ?_
    repeat (refine gV_s rfl (by first | exact trivial | omega) ?_)
    rw [e31]
    refine gV_i rfl (by unfold rng; omega) (fun h2 => ?_) (fun h2 => ?_)
    · repeat (refine gV_s rfl (by first | exact trivial | omega) ?_)
      exact gV_ret rfl trivial (dMr (by unfold rPlan; rw [if_pos h1, if_pos h2]) hR)
    · repeat (refine gV_s rfl (by first | exact trivial | omega) ?_)
      exact gV_ret rfl trivial (dMr (by unfold rPlan; rw [if_pos h1, if_neg h2, hR.e70]) hR)
  · refine gV_it rfl (by unfold rng; omega) rfl ?_
    repeat (refine gV_s rfl (by first | exact trivial | omega) ?_)
    exact gV_ret rfl trivial (dMr (by unfold rPlan; rw [if_neg h1]) hR)
