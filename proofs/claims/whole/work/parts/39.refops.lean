/-! The reference: what is told to it. -/
def dM (o : Int × Mem) (M : Mem) (B : Int) : PV → Mem → Prop := fun r M' => r = vI o.1 ∧ RM o.2 M' (B + 1700000) ∧ Fr M M'
theorem dMP {o : Int × Mem} {S' M M' : Mem} {v B : Int} (h : o = (v, S')) (hR : RM S' M' (B + 1700000)) (hF : Fr M M') : dM o M B (vI v) M' := by subst h; exact ⟨rfl, hR, hF⟩
theorem dM0 {o : Int × Mem} {S M : Mem} {v B : Int} (h : o = (v, S)) (hR : RM S M B) : dM o M B (vI v) M := dMP h (RM_B hR (by omega)) Fr.rf
theorem takes_loop {d : Nat} {S M0 : Mem} {lo : Int → Int} {B l : Int} (h : AI S lo (-2)) (hu : S 9 l = 1) :
    ∀ (n k : Nat) (M : Mem), k + n = 8 → RM (aTake S l k) M (B + 400 * k) → Fr M0 M → gV mX7_takes (d + 2) (fun r M' => r = vI (ct (is_ (S 19) (-6)) 8) ∧ RM (aTake S l 8) M' (B + 3200) ∧ Fr M0 M') 7 [vR 47, vI l, vI (ct (is_ (S 19) (-6)) k), vI k] [vI 8, vI k] M := by
  obtain ⟨l0, lL, l4⟩ := AI_up h hu
  intro n
  induction n with
  | zero =>
    intro k M hk hR hF
    have e : k = 8 := by omega
    subst e
    refine gV_it rfl (by unfold rng; omega) (by omega) ?_
    repeat (refine gV_s rfl (by first | exact trivial | omega) ?_)
    exact gV_ret rfl trivial ⟨rfl, RM_B hR (by omega), hF⟩
  | succ n ih =>
    intro k M hk hR hF
    have hA := AI_take h hu k (by omega)
    have hb := hA.2.2.1 k
    have hbk := AI_bk hA k
    have e19 : aTake S l k 19 k = S 19 k := by rw [aTake_19 S l0 l4, if_neg (by omega)]
    have e9 : aTake S l k 9 = S 9 := aTake_o S l0 l4 (by decide) (by decide) (by decide) (by decide) (by decide) (by decide) (by decide) (by omega) k
    have e52 : M 52 k = S 19 k := by rw [hR.e52, e19]
    rw [e19] at hb hbk
    have step : aTake S l (k + 1) = if aTake S l k 19 k = -6 then aRel (mw (aTake S l k) 19 k l) k else aTake S l k := rfl
    have ih2 := fun M' => ih (k + 1) M' (by omega)
    rw [ct_s _ k, show B + 400 * ((k + 1 : Nat) : Int) = B + 400 * k + 400 by push_cast; omega, step, e19] at ih2
    refine gV_in rfl (by unfold rng; omega) (by omega) ?_
    repeat (refine gV_s rfl (by first | exact trivial | omega) ?_)
    rw [e52]
    refine gV_i rfl (by unfold rng; omega) (fun h1 => ?_) (fun h1 => ?_)
    · rw [if_pos h1, if_pos (by simp [is_, h1]), rel_lets] at ih2
      have hh : aTake S l k 21 k = 0 := by
        rcases hb.2.2.1 with q | q
        · exact q
        · exact absurd h1 (hb.2.2.2.1 q)
      have es : mw (mw (aTake S l k) 19 k l) 21 k 0 = mw (aTake S l k) 19 k l := by
        have := mw_id (mw (aTake S l k) 19 k l) 21 k
        rw [mw_rn _ _ _ (by decide), hh] at this
        exact this
      rw [es] at ih2
      have hE1 : Ex [19, 20, 21, 23] (mw (aTake S l k) 19 k l) (aTake S l k) := Ex.skip1 Ex.rf (by decide)
      repeat (refine gV_s rfl (by first | exact trivial | omega) ?_)
      refine gV_cV (ok_lets (d := d) (b := (k : Int)) (B := B + 400 * k) hA hE1 (by omega) (by omega) (Or.inr (by rw [mw_rs, up1_s, e9]; exact hu)) (RM_w hR (by simp))) mX7_lets_ok sX7_X7_lets rfl rfl rfl rfl rfl rfl ?_
      rintro r M'' ⟨rfl, hR2, hF2⟩
      repeat (refine gV_s rfl (by first | exact trivial | omega) ?_)
      exact ih2 M'' hR2 (Fr.tr (Fr.w hF (by decide)) hF2)
    · rw [if_neg h1, if_neg (by simp [is_, h1]), Int.add_zero] at ih2
      repeat (refine gV_s rfl (by first | exact trivial | omega) ?_)
      exact ih2 M (RM_B hR (by omega)) hF
theorem ok_takes {d : Nat} {S M : Mem} {lo : Int → Int} {B l : Int} (h : AI S lo (-2)) (hu : S 9 l = 1) (hR : RM S M B) : gOk mX7_takes (d + 2) [vR 47, vI l] M (fun r M' => r = vI (ct (is_ (S 19) (-6)) 8) ∧ RM (aTake S l 8) M' (B + 3200) ∧ Fr M M') := by
  refine gOk_of mX7_takes_ok (by simp) (Nat.le_of_ble_eq_true rfl) ?_
  repeat (refine gV_s rfl (by first | exact trivial | omega) ?_)
  exact takes_loop (d := d) h hu 8 0 M rfl (RM_B hR (by omega)) Fr.rf
theorem ok_mBack {d : Nat} {S M : Mem} {B l : Int} (h : NI S) (hl : rng l) (hR : RM S M B) (hB : B + 1700000 ≤ 2000000000) : gOk mX7_back (d + 3) [vR 47, vI l] M (dM (oBack S l) M B) := by
  have hMM := MR_of h hR (by omega)
  have hL := h.1.1
  refine gOk_of mX7_back_ok (by simp) (Nat.le_of_ble_eq_true rfl) ?_
  repeat (refine gV_s rfl (by first | exact trivial | omega) ?_)
  refine gV_cV (ok_isLink (d := d + 1) (M := M) hMM hl) mX7_isLink_ok sX7_X7_isLink rfl rfl rfl rfl rfl rfl ?_
  rintro r M' ⟨rfl, ⟨h1, rfl⟩ | ⟨h1, rfl⟩⟩
  · rw [hR.s1] at h1
    have hup := h.2.1.2.1 l
    have e50 : M' 50 l = S 9 l := by rw [hR.e50]
    refine gV_in rfl (by unfold rng; omega) (by omega) ?_
    repeat (refine gV_s rfl (by first | exact trivial | omega) ?_)
    rw [e50]
    refine gV_i rfl (by unfold rng; omega) (fun h2 => ?_) (fun h2 => ?_)
    · repeat (refine gV_s rfl (by first | exact trivial | omega) ?_)
      refine gV_cV (ok_takes (d := d) (B := B) (l := l) (S := mw S 9 l 1) (AI_up1 h h1.1 h1.2) (by rw [mw_rs, up1_s]) (RM_w hR (by simp))) mX7_takes_ok sX7_X7_takes rfl rfl rfl rfl rfl rfl ?_
      rintro r M'' ⟨rfl, hR2, hF2⟩
      refine gV_ret rfl trivial (dMP (by unfold oBack; rw [if_pos h1, if_pos h2, mw_rn _ _ _ (by decide)]; rfl) (RM_B hR2 (by omega)) (Fr.tr (Fr.w Fr.rf (by decide)) hF2))
    · repeat (refine gV_s rfl (by first | exact trivial | omega) ?_)
      exact gV_ret rfl trivial (dM0 (by unfold oBack; rw [if_pos h1, if_neg h2]) hR)
  · rw [hR.s1] at h1
    refine gV_it rfl (by unfold rng; omega) rfl ?_
    repeat (refine gV_s rfl (by first | exact trivial | omega) ?_)
    exact gV_ret rfl trivial (dM0 (by unfold oBack; rw [if_neg h1]) hR)
theorem ok_mLink {d : Nat} {S M : Mem} {B s dl : Int} (h : NI S) (hs : rng s) (hd : rng dl) (hR : RM S M B) (hB : B + 1700000 ≤ 2000000000) : gOk mX7_link (d + 3) [vR 47, vI s, vI dl] M (dM (oLink S s dl) M B) := by
  have hL := h.1.1
  have e1 : M 47 1 = S 1 0 := hR.s1
  refine gOk_of mX7_link_ok (by simp) (Nat.le_of_ble_eq_true rfl) ?_
  repeat (refine gV_s rfl (by first | exact trivial | omega) ?_)
  refine gV_cS (ok_in (d := d + 2) (M := M) hs (by unfold rng; omega) (by unfold rng; omega)) mX7_in_ok sX7_X7_in rfl rfl rfl rfl ?_
  rintro r M' ⟨rfl, ⟨h1, rfl⟩ | ⟨h1, rfl⟩⟩
  · refine gV_in rfl (by unfold rng; omega) (by omega) ?_
    repeat (refine gV_s rfl (by first | exact trivial | omega) ?_)
    refine gV_cS (ok_in (d := d + 2) (M := M') hd (by unfold rng; omega) (by unfold rng; omega)) mX7_in_ok sX7_X7_in rfl rfl rfl rfl ?_
    rintro r M'' ⟨rfl, ⟨h2, rfl⟩ | ⟨h2, rfl⟩⟩
    · refine gV_in rfl (by unfold rng; omega) (by omega) ?_
      repeat (refine gV_s rfl (by first | exact trivial | omega) ?_)
      rw [e1]
      refine gV_i rfl (by unfold rng; omega) (fun h3 => ?_) (fun h3 => ?_)
      · repeat (refine gV_s rfl (by first | exact trivial | omega) ?_)
        exact gV_ret rfl trivial (dM0 (by unfold oLink; rw [if_pos ⟨h1, h2⟩, if_pos (by omega)]) hR)
      · have hR1 : RM (aLink0 S s dl) (mw (mw (mw (mw M'' 48 (M'' 47 1) s) 49 (M'' 47 1) dl) 50 (M'' 47 1) 1) 47 1 (M'' 47 1 + 1)) B := by
          rw [e1]
          exact RM_sc (RM_w (RM_w (RM_w hR (by simp)) (by simp)) (by simp)) (by simp)
        have hA := AI_link0 h (by omega) h1 h2
        have eS19 : aLink0 S s dl 19 = S 19 := by unfold aLink0; simp only [mw_rn, ne_eq, not_false_eq_true, Nat.reduceEqDiff, Nat.reduceLT, Nat.reduceLeDiff, true_or, or_true, forall_const]
        have hF1 : Fr M'' (mw (mw (mw (mw M'' 48 (M'' 47 1) s) 49 (M'' 47 1) dl) 50 (M'' 47 1) 1) 47 1 (M'' 47 1 + 1)) := Fr.w (Fr.w (Fr.w (Fr.w Fr.rf (by decide)) (by decide)) (by decide)) (by decide)
        have hb1 : 0 ≤ M'' 47 1 ∧ M'' 47 1 < 4 := by omega
        repeat (refine gV_s rfl (by first | exact trivial | omega) ?_)
        simp only [mw_rn, ne_eq, not_false_eq_true, Nat.reduceEqDiff, Nat.reduceLT, Nat.reduceLeDiff, true_or, or_true, forall_const]
        repeat (refine gV_s rfl (by first | exact trivial | omega) ?_)
        simp only [mw_rn, ne_eq, not_false_eq_true, Nat.reduceEqDiff, Nat.reduceLT, Nat.reduceLeDiff, true_or, or_true, forall_const]
        repeat (refine gV_s rfl (by first | exact trivial | omega) ?_)
        simp only [mw_rn, mw_rs, up1_s, ne_eq, not_false_eq_true, Nat.reduceEqDiff, Nat.reduceLT, Nat.reduceLeDiff, true_or, or_true, forall_const]
        rw [show M'' 47 1 + 1 - 1 = S 1 0 by omega]
        refine gV_cV (ok_takes (d := d) (B := B) (l := S 1 0) (S := aLink0 S s dl) hA (by unfold aLink0; simp only [mw_rs, mw_rn, ne_eq, not_false_eq_true, Nat.reduceEqDiff, Nat.reduceLT, Nat.reduceLeDiff, true_or, or_true, forall_const, up1_s]) hR1) mX7_takes_ok sX7_X7_takes rfl rfl rfl rfl rfl rfl ?_
        rintro r M3 ⟨rfl, hR2, hF2⟩
        have e13 : M3 47 1 = S 1 0 + 1 := by
          rw [hR2.s1, aTake_o _ (by omega) (by omega) (by decide) (by decide) (by decide) (by decide) (by decide) (by decide) (by decide) (by omega)]
          unfold aLink0
          rw [mw_rs, up1_s]
        repeat (refine gV_s rfl (by first | exact trivial | omega) ?_)
        rw [e13, show S 1 0 + 1 - 1 = S 1 0 by omega]
        exact gV_ret rfl trivial (dMP (by unfold oLink; rw [if_pos ⟨h1, h2⟩, if_neg (by omega)]; rfl) (RM_B hR2 (by omega)) (Fr.tr hF1 hF2))
    · refine gV_it rfl (by unfold rng; omega) rfl ?_
      repeat (refine gV_s rfl (by first | exact trivial | omega) ?_)
      exact gV_ret rfl trivial (dM0 (by unfold oLink; rw [if_neg (fun q => h2 q.2)]) hR)
  · refine gV_it rfl (by unfold rng; omega) rfl ?_
    repeat (refine gV_s rfl (by first | exact trivial | omega) ?_)
    exact gV_ret rfl trivial (dM0 (by unfold oLink; rw [if_neg (fun q => h1 q.1)]) hR)
theorem mtick_loop {d : Nat} {S M0 : Mem} {x B : Int} {P : PV → Mem → Prop} (h : NI S) (hx : 0 ≤ x ∧ x ≤ 500) (ht : S 5 0 + x ≤ 1000000) (hB : B + 1700000 ≤ 2000000000) (hP : ∀ M', RM (aTicks S x.toNat) M' (B + 1700000) → Fr M0 M' → P (vI (S 5 0 + x)) M') :
    ∀ (n k : Nat) (M : Mem), (k : Int) + n = x → RM (aTicks S k) M (B + 3300 * k) → Fr M0 M → gV mX7_tick (d + 4) P 18 [vR 47, vI x, vI k] [vI x, vI k] M := by
  intro n
  induction n with
  | zero =>
    intro k M hk hR hF
    have e : k = x.toNat := by omega
    subst e
    have e0 : M 47 0 = S 5 0 + x := by rw [hR.s0, (NI_ticks h x.toNat (by omega)).2]; omega
    refine gV_it rfl (by unfold rng; omega) (by omega) ?_
    repeat (refine gV_s rfl (by first | exact trivial | omega) ?_)
    rw [e0]
    exact gV_ret rfl trivial (hP M (RM_B hR (by omega)) hF)
  | succ n ih =>
    intro k M hk hR hF
    obtain ⟨i1, i2⟩ := NI_ticks h k (by omega)
    refine gV_in rfl (by unfold rng; omega) (by omega) ?_
    repeat (refine gV_s rfl (by first | exact trivial | omega) ?_)
    refine gV_cV (ok_tick1 (d := d) (B := B + 3300 * k) i1 (by omega) hR (by omega)) mX7_tick1_ok sX7_X7_tick1 rfl rfl rfl rfl rfl rfl ?_
    rintro r M' ⟨rfl, hR2, hF2⟩
    repeat (refine gV_s rfl (by first | exact trivial | omega) ?_)
    exact ih (k + 1) M' (by push_cast; omega) (by rw [show B + 3300 * ((k + 1 : Nat) : Int) = B + 3300 * k + 3300 by push_cast; omega]; exact hR2) (Fr.tr hF hF2)
theorem ok_mTick {d : Nat} {S M : Mem} {B x : Int} (h : NI S) (hx : rng x) (ht : S 5 0 ≤ 900000) (hR : RM S M B) (hB : B + 1700000 ≤ 2000000000) : gOk mX7_tick (d + 4) [vR 47, vI x] M (dM (oTick S x) M B) := by
  have h0 := h.1.2.2.2.1
  refine gOk_of mX7_tick_ok (by simp) (Nat.le_of_ble_eq_true rfl) ?_
  repeat (refine gV_s rfl (by first | exact trivial | omega) ?_)
  refine gV_cS (ok_in (d := d + 3) (M := M) hx (by unfold rng; omega) (by unfold rng; omega)) mX7_in_ok sX7_X7_in rfl rfl rfl rfl ?_
  rintro r M' ⟨rfl, ⟨h1, rfl⟩ | ⟨h1, rfl⟩⟩
  · refine gV_in rfl (by unfold rng; omega) (by omega) ?_
    repeat (refine gV_s rfl (by first | exact trivial | omega) ?_)
    exact mtick_loop (d := d) (B := B) (M0 := M') h h1 (by omega) hB (fun M2 a b => dMP (by unfold oTick; rw [if_pos h1]) a b) x.toNat 0 M' (by omega) (RM_B hR (by omega)) Fr.rf
  · refine gV_it rfl (by unfold rng; omega) rfl ?_
    repeat (refine gV_s rfl (by first | exact trivial | omega) ?_)
    exact gV_ret rfl trivial (dM0 (by unfold oTick; rw [if_neg h1]) hR)
theorem ok_mFlow {d : Nat} {S M : Mem} {B x : Int} (h : NI S) (hx : rng x) (hR : RM S M B) : gOk mX7_flow (d + 1) [vR 47, vI x] M (dM (oFlow S x) M B) := by
  have hF := h.1.2.1
  have e10 : M 47 10 = S 3 0 := hR.s10
  refine gOk_of mX7_flow_ok (by simp) (Nat.le_of_ble_eq_true rfl) ?_
  repeat (refine gV_s rfl (by first | exact trivial | omega) ?_)
  refine gV_cS (ok_in (d := d) (M := M) hx (by unfold rng; omega) (by unfold rng; omega)) mX7_in_ok sX7_X7_in rfl rfl rfl rfl ?_
  rintro r M' ⟨rfl, ⟨h1, rfl⟩ | ⟨h1, rfl⟩⟩
  · refine gV_in rfl (by unfold rng; omega) (by omega) ?_
    repeat (refine gV_s rfl (by first | exact trivial | omega) ?_)
    rw [e10]
    refine gV_i rfl (by unfold rng; omega) (fun h3 => ?_) (fun h3 => ?_)
    · repeat (refine gV_s rfl (by first | exact trivial | omega) ?_)
      exact gV_ret rfl trivial (dM0 (by unfold oFlow; rw [if_pos h1, if_pos (by omega)]) hR)
    · have hR1 : RM (aFlow S x) (mw (mw (mw M' 56 (M' 47 10) x) 57 (M' 47 10) (-1)) 47 10 (M' 47 10 + 1)) B := by
        rw [e10]
        unfold aFlow
        exact RM_sc (RM_S (RM_w (RM_w hR (by simp)) (by simp)) (fun r hr => mw_rn _ _ _ (by rintro rfl; cases hr))) (by simp)
      have ex : (mw (mw (mw M' 56 (M' 47 10) x) 57 (M' 47 10) (-1)) 47 10 (M' 47 10 + 1)) 47 10 - 1 = S 3 0 := by rw [mw_rs, up1_s, e10]; omega
      have hb1 : 0 ≤ M' 47 10 ∧ M' 47 10 < 16 := by omega
      repeat (refine gV_s rfl (by first | exact trivial | omega | (simp only [mw_rn, ne_eq, not_false_eq_true, Nat.reduceEqDiff, Nat.reduceLT, Nat.reduceLeDiff, true_or, or_true, forall_const]; omega)) ?_)
      change gV mX7_flow (d + 1) _ 61 [vR 47, vI x] [vI ((mw (mw (mw M' 56 (M' 47 10) x) 57 (M' 47 10) (-1)) 47 10 (M' 47 10 + 1)) 47 10 - 1)] (mw (mw (mw M' 56 (M' 47 10) x) 57 (M' 47 10) (-1)) 47 10 (M' 47 10 + 1))
      rw [ex]
      exact gV_ret rfl trivial (dMP (by unfold oFlow; rw [if_pos h1, if_neg (by omega)]) (RM_B hR1 (by omega)) (Fr.w (Fr.w (Fr.w Fr.rf (by decide)) (by decide)) (by decide)))
  · refine gV_it rfl (by unfold rng; omega) rfl ?_
    repeat (refine gV_s rfl (by first | exact trivial | omega) ?_)
    exact gV_ret rfl trivial (dM0 (by unfold oFlow; rw [if_neg h1]) hR)
theorem ok_mRate {d : Nat} {S M : Mem} {B f x : Int} (h : NI S) (hf : rng f) (hx : rng x) (hR : RM S M B) (hB : B + 1700000 ≤ 2000000000) : gOk mX7_rate (d + 2) [vR 47, vI f, vI x] M (dM (oRate S f x) M B) := by
  have hMM := MR_of h hR (by omega)
  have hF := h.1.2.1
  refine gOk_of mX7_rate_ok (by simp) (Nat.le_of_ble_eq_true rfl) ?_
  repeat (refine gV_s rfl (by first | exact trivial | omega) ?_)
  refine gV_cV (ok_isFlow (d := d) (M := M) hMM hf) mX7_isFlow_ok sX7_X7_isFlow rfl rfl rfl rfl rfl rfl ?_
  rintro r M' ⟨rfl, ⟨h1, rfl⟩ | ⟨h1, rfl⟩⟩
  · rw [hR.s10] at h1
    refine gV_in rfl (by unfold rng; omega) (by omega) ?_
    repeat (refine gV_s rfl (by first | exact trivial | omega) ?_)
    refine gV_cS (ok_in (d := d + 1) (M := M') hx (by unfold rng; omega) (by unfold rng; omega)) mX7_in_ok sX7_X7_in rfl rfl rfl rfl ?_
    rintro r M'' ⟨rfl, ⟨h2, rfl⟩ | ⟨h2, rfl⟩⟩
    · refine gV_in rfl (by unfold rng; omega) (by omega) ?_
      repeat (refine gV_s rfl (by first | exact trivial | omega) ?_)
      have e56 : M'' 56 f = S 24 f := by rw [hR.e56]
      rw [e56]
      exact gV_ret rfl trivial (dMP (by unfold oRate; rw [if_pos h1, if_pos h2]) (RM_B (RM_w hR (by simp)) (by omega)) (Fr.w Fr.rf (by decide)))
    · refine gV_it rfl (by unfold rng; omega) rfl ?_
      repeat (refine gV_s rfl (by first | exact trivial | omega) ?_)
      exact gV_ret rfl trivial (dM0 (by unfold oRate; rw [if_pos h1, if_neg h2]) hR)
  · rw [hR.s10] at h1
    refine gV_it rfl (by unfold rng; omega) rfl ?_
    repeat (refine gV_s rfl (by first | exact trivial | omega) ?_)
    exact gV_ret rfl trivial (dM0 (by unfold oRate; rw [if_neg h1]) hR)
theorem ct_all : ∀ n : Nat, ct (fun _ => true) n = n
  | 0 => rfl
  | n + 1 => by rw [ct_s, ct_all n]; simp
theorem open_ct {p q r : Int → Bool} {n : Nat} (hp : ∀ i, p i = true → r i = true ∧ q i = false) (hq : ∀ i, q i = true → r i = true) : (∃ i : Int, 0 ≤ i ∧ i < n ∧ r i = true ∧ p i = false ∧ q i = false) ↔ ct p n + ct q n < ct r n := by
  have h1 : ct p n + ct q n = ct (fun i => p i || q i) n := ct_or (fun i _ _ => by
    have := hp i
    cases e1 : p i <;> cases e2 : q i <;> simp_all [bi])
  rw [h1]
  constructor
  · rintro ⟨i, i0, i1, i2, i3, i4⟩
    exact ct_lt (i := i) (fun j _ _ hj => by
      have a := hp j
      have b := hq j
      cases e1 : p j <;> simp_all) i0 i1 (by simp [i3, i4]) i2
  · intro hlt
    by_cases hc : ∃ i : Int, 0 ≤ i ∧ i < n ∧ r i = true ∧ p i = false ∧ q i = false
    · exact hc
    · have : ct (fun i => p i || q i) n = ct r n := ct_cong (fun j j0 j1 => by
        have a := hp j
        have b := hq j
        cases e1 : p j <;> cases e2 : q j <;> cases e3 : r j <;> simp_all)
      omega
theorem open_f {S M : Mem} {lo : Int → Int} {x B f : Int} (h : AI S lo x) (hR : RM S M B) (f0 : 0 ≤ f) (f1 : f < 16) : (∃ i, 0 ≤ i ∧ i < M 47 16 ∧ M 61 i < 4 ∧ (f < 0 ∨ M 58 i = f)) ↔ S 27 f + S 28 f < S 26 f := by
  obtain ⟨a1, a2, a3⟩ := h.2.2.2.2.2.2.2.2.2.1 f f0 f1
  have h4 := h.1.2.2.1
  rw [a1, a2, a3, ← open_ct (fun i hi => by simp at hi ⊢; omega) (fun i hi => by simp at hi ⊢; omega), hR.s16, hR.e61, hR.e58]
  constructor
  · rintro ⟨i, i0, i1, i2, i3⟩
    refine ⟨i, i0, by omega, ?_, ?_, ?_⟩
    · simp; omega
    · simp; omega
    · simp; omega
  · rintro ⟨i, i0, i1, i2, i3, i4⟩
    have ht := (h.2.2.2.2.2.2.1 i).2.2.2.1
    simp at i2 i3 i4
    refine ⟨i, i0, by omega, ?_, Or.inr i2⟩
    by_cases e4 : S 34 i = 4
    · exact absurd i2 (i3 e4)
    · by_cases e5 : S 34 i = 5
      · exact absurd i2 (i4 e5)
      · omega
theorem open_all {S M : Mem} {lo : Int → Int} {x B : Int} (h : AI S lo x) (hR : RM S M B) : (∃ i, 0 ≤ i ∧ i < M 47 16 ∧ M 61 i < 4 ∧ ((-1 : Int) < 0 ∨ M 58 i = -1)) ↔ S 41 4 + S 41 5 < S 4 0 := by
  have a2 := h.2.2.2.2.2.2.2.1 4 (by decide) (by decide)
  have a3 := h.2.2.2.2.2.2.2.1 5 (by decide) (by decide)
  have h4 := h.1.2.2.1
  have hc := ct_all (S 4 0).toNat
  rw [show ((S 4 0).toNat : Int) = S 4 0 by omega] at hc
  rw [← hc, a2, a3, ← open_ct (fun i hi => by simp at hi ⊢; omega) (fun i hi => by simp at hi ⊢), hR.s16, hR.e61, hR.e58]
  constructor
  · rintro ⟨i, i0, i1, i2, i3⟩
    refine ⟨i, i0, by omega, rfl, ?_, ?_⟩
    · simp; omega
    · simp; omega
  · rintro ⟨i, i0, i1, i2, i3, i4⟩
    have ht := (h.2.2.2.2.2.2.1 i).2.2.2.1
    simp at i3 i4
    exact ⟨i, i0, by omega, by omega, Or.inl (by decide)⟩
theorem ok_mPin {d : Nat} {S M : Mem} {B f b : Int} (h : NI S) (hf : rng f) (hb : rng b) (hR : RM S M B) (hB : B + 1700000 ≤ 2000000000) : gOk mX7_pin (d + 2) [vR 47, vI f, vI b] M (dM (oPin S f b) M B) := by
  have hMM := MR_of h hR (by omega)
  have hF := h.1.2.1
  refine gOk_of mX7_pin_ok (by simp) (Nat.le_of_ble_eq_true rfl) ?_
  repeat (refine gV_s rfl (by first | exact trivial | omega) ?_)
  refine gV_cV (ok_isFlow (d := d) (M := M) hMM hf) mX7_isFlow_ok sX7_X7_isFlow rfl rfl rfl rfl rfl rfl ?_
  rintro r M' ⟨rfl, ⟨h1, rfl⟩ | ⟨h1, rfl⟩⟩
  · rw [hR.s10] at h1
    refine gV_in rfl (by unfold rng; omega) (by omega) ?_
    repeat (refine gV_s rfl (by first | exact trivial | omega) ?_)
    refine gV_cS (ok_in (d := d + 1) (M := M') hb (by unfold rng; omega) (by unfold rng; omega)) mX7_in_ok sX7_X7_in rfl rfl rfl rfl ?_
    rintro r M'' ⟨rfl, ⟨h2, rfl⟩ | ⟨h2, rfl⟩⟩
    · refine gV_in rfl (by unfold rng; omega) (by omega) ?_
      repeat (refine gV_s rfl (by first | exact trivial | omega) ?_)
      refine gV_cV (ok_hasOpen (d := d + 1) (M := M'') (f := f) hMM hf) mX7_hasOpen_ok sX7_X7_hasOpen rfl rfl rfl rfl rfl rfl ?_
      have ho := open_f h hR h1.1 (show f < 16 by omega)
      rintro r M3 ⟨rfl, ⟨h3, rfl⟩ | ⟨h3, rfl⟩⟩
      · refine gV_in rfl (by unfold rng; omega) (by omega) ?_
        repeat (refine gV_s rfl (by first | exact trivial | omega) ?_)
        exact gV_ret rfl trivial (dM0 (by unfold oPin; rw [if_pos h1, if_pos (by omega), if_pos (ho.mp h3)]) hR)
      · refine gV_it rfl (by unfold rng; omega) rfl ?_
        repeat (refine gV_s rfl (by first | exact trivial | omega) ?_)
        refine gV_cV (ok_bucketNow (d := d + 1) (M := M3) (f := f) (P := fun r M' => r = vI (bkO S f) ∧ M' = M3) hMM h1.1 (by omega) ⟨by rw [bkM_eq h hR], rfl⟩) mX7_bucketNow_ok sX7_X7_bucketNow rfl rfl rfl rfl rfl rfl ?_
        rintro r M4 ⟨rfl, rfl⟩
        repeat (refine gV_s rfl (by first | exact trivial | omega) ?_)
        exact gV_ret rfl trivial (dMP (by unfold oPin; rw [if_pos h1, if_pos (by omega), if_neg (fun q => h3 (ho.mpr q))]) (RM_B (RM_w hR (by simp)) (by omega)) (Fr.w Fr.rf (by decide)))
    · refine gV_it rfl (by unfold rng; omega) rfl ?_
      repeat (refine gV_s rfl (by first | exact trivial | omega) ?_)
      exact gV_ret rfl trivial (dM0 (by unfold oPin; rw [if_pos h1, if_neg (by omega)]) hR)
  · rw [hR.s10] at h1
    refine gV_it rfl (by unfold rng; omega) rfl ?_
    repeat (refine gV_s rfl (by first | exact trivial | omega) ?_)
    exact gV_ret rfl trivial (dM0 (by unfold oPin; rw [if_neg h1]) hR)
theorem ok_mHash {d : Nat} {S M : Mem} {B a c : Int} (h : NI S) (ha : rng a) (hc : rng c) (hR : RM S M B) (hB : B + 1700000 ≤ 2000000000) : gOk mX7_hash (d + 1) [vR 47, vI a, vI c] M (dM (oHash S a c) M B) := by
  have hMM := MR_of h hR (by omega)
  refine gOk_of mX7_hash_ok (by simp) (Nat.le_of_ble_eq_true rfl) ?_
  repeat (refine gV_s rfl (by first | exact trivial | omega) ?_)
  refine gV_cS (ok_in (d := d) (M := M) ha (by unfold rng; omega) (by unfold rng; omega)) mX7_in_ok sX7_X7_in rfl rfl rfl rfl ?_
  rintro r M' ⟨rfl, ⟨h1, rfl⟩ | ⟨h1, rfl⟩⟩
  · refine gV_in rfl (by unfold rng; omega) (by omega) ?_
    repeat (refine gV_s rfl (by first | exact trivial | omega) ?_)
    refine gV_cS (ok_in (d := d) (M := M') hc (by unfold rng; omega) (by unfold rng; omega)) mX7_in_ok sX7_X7_in rfl rfl rfl rfl ?_
    rintro r M'' ⟨rfl, ⟨h2, rfl⟩ | ⟨h2, rfl⟩⟩
    · refine gV_in rfl (by unfold rng; omega) (by omega) ?_
      repeat (refine gV_s rfl (by first | exact trivial | omega) ?_)
      refine gV_cV (ok_hasOpen (d := d) (M := M'') (f := -1) hMM (by unfold rng; omega)) mX7_hasOpen_ok sX7_X7_hasOpen rfl rfl rfl rfl rfl rfl ?_
      have ho := open_all h hR
      rintro r M3 ⟨rfl, ⟨h3, rfl⟩ | ⟨h3, rfl⟩⟩
      · refine gV_in rfl (by unfold rng; omega) (by omega) ?_
        repeat (refine gV_s rfl (by first | exact trivial | omega) ?_)
        exact gV_ret rfl trivial (dM0 (by unfold oHash; rw [if_pos ⟨h1, h2⟩, if_pos (ho.mp h3)]) hR)
      · refine gV_it rfl (by unfold rng; omega) rfl ?_
        repeat (refine gV_s rfl (by first | exact trivial | omega) ?_)
        exact gV_ret rfl trivial (dMP (by unfold oHash; rw [if_pos ⟨h1, h2⟩, if_neg (fun q => h3 (ho.mpr q))]) (RM_B (RM_sc (RM_sc hR (by simp)) (by simp)) (by omega)) (Fr.w (Fr.w Fr.rf (by decide)) (by decide)))
    · refine gV_it rfl (by unfold rng; omega) rfl ?_
      repeat (refine gV_s rfl (by first | exact trivial | omega) ?_)
      exact gV_ret rfl trivial (dM0 (by unfold oHash; rw [if_neg (fun q => h2 q.2)]) hR)
  · refine gV_it rfl (by unfold rng; omega) rfl ?_
    repeat (refine gV_s rfl (by first | exact trivial | omega) ?_)
    exact gV_ret rfl trivial (dM0 (by unfold oHash; rw [if_neg (fun q => h1 q.1)]) hR)
theorem ok_mNumbers {d : Nat} {S M : Mem} {B v : Int} (h : NI S) (hv : v = 0 ∨ v = 1) (hR : RM S M B) (hB : B + 1700000 ≤ 2000000000) : gOk mX7_numbers (d + 1) [vR 47, vI v] M (dM (oNumbers S v) M B) := by
  have hMM := MR_of h hR (by omega)
  have hno := h.1.2.2.2.2.1
  have hn0 : rng (S 5 1) := by unfold rng; omega
  have hn1 : ¬ S 5 1 = 0 → S 5 1 = 1 := fun q => by omega
  have ho := open_all h hR
  refine gOk_of mX7_numbers_ok (by simp) (Nat.le_of_ble_eq_true rfl) ?_
  repeat (refine gV_s rfl (by first | exact trivial | omega) ?_)
  refine gV_cV (ok_hasOpen (d := d) (M := M) (f := -1) hMM (by unfold rng; omega)) mX7_hasOpen_ok sX7_X7_hasOpen rfl rfl rfl rfl rfl rfl ?_
  rintro r M3 ⟨rfl, ⟨h3, rfl⟩ | ⟨h3, rfl⟩⟩
  · refine gV_in rfl (by unfold rng; omega) (by omega) ?_
    repeat (refine gV_s rfl (by first | exact trivial | omega) ?_)
    exact gV_ret rfl trivial (dM0 (by unfold oNumbers; rw [if_pos (ho.mp h3)]) hR)
  · refine gV_it rfl (by unfold rng; omega) rfl ?_
    repeat (refine gV_s rfl (by first | exact trivial | omega) ?_)
    rw [hR.s15]
    have hR1 : RM (mw S 5 1 v) (mw M3 47 15 v) (B + 1700000) := RM_B (RM_sc hR (by simp)) (by omega)
    refine gV_i rfl hn0 (fun h4 => ?_) (fun h4 => ?_)
    · repeat (refine gV_s rfl (by first | exact trivial | omega) ?_)
      exact gV_ret rfl trivial (dMP (by unfold oNumbers; rw [if_neg (fun q => h3 (ho.mpr q)), h4]) hR1 (Fr.w Fr.rf (by decide)))
    · repeat (refine gV_s rfl (by first | exact trivial | omega) ?_)
      exact gV_ret rfl trivial (dMP (by unfold oNumbers; rw [if_neg (fun q => h3 (ho.mpr q)), hn1 h4]) hR1 (Fr.w Fr.rf (by decide)))
