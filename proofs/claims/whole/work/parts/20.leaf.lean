/-! The class's small methods. -/
section GC2
variable {mt mt' : Mt} {d : Nat} {P P' : PV → Mem → Prop} {pc nx tg ix n : Nat} {lv st as rest : List PV} {M : Mem}
theorem gV_cV {r ci : Nat} {fs : List (Option Nat)} {T : u_T} {N : Nat} (hok : gOk mt' d (vR r :: as) M P') (hm : mtOk mt') (hs : siteV mt.1.cls ix mt'.1 n) (hl : lk pc mt.2.2.2.2.2 = some (nx, tg, .invokevirtual ix)) (hn : as.length = n) (hst : st = as.reverse ++ vR r :: rest) (hr : shp r = some (.inl (ci, fs))) (hc : vwCl[ci]? = some (mt'.1.cls, T, N)) (hz : (noL rest && Nat.ble rest.length 8) = true)
    (kk : ∀ (r : PV) (M : Mem), P' r M → gV mt (d + 1) P nx lv (rp r rest) M) : gV mt (d + 1) P pc lv st M := gV_callV hl hm hs hn hst hr hc hz hok kk
theorem gV_cS (hok : gOk mt' d as M P') (hm : mtOk mt') (hs : siteS mt.1.cls ix mt'.1 n) (hl : lk pc mt.2.2.2.2.2 = some (nx, tg, .invokestatic ix)) (hn : as.length = n) (hst : st = as.reverse ++ rest) (hz : (noL rest && Nat.ble rest.length 8) = true)
    (kk : ∀ (r : PV) (M : Mem), P' r M → gV mt (d + 1) P nx lv (rp r rest) M) : gV mt (d + 1) P pc lv st M := gV_callS hl hm hs hn hst hz hok kk
end GC2
/-- an answer of yes or no -/
def yn (c : Prop) (M : Mem) : PV → Mem → Prop := fun r M' => M' = M ∧ ((c ∧ r = vI 1) ∨ (¬ c ∧ r = vI 0))
theorem ok_isWithin {d : Nat} {M : Mem} {x lo hi : Int} (hx : rng x) (hl : rng lo) (hh : rng hi) : gOk mX6_isWithin d [vI x, vI lo, vI hi] M (yn (lo ≤ x ∧ x ≤ hi) M) := by
  refine gOk_of mX6_isWithin_ok (by simp) (Nat.le_of_ble_eq_true rfl) ?_
  repeat (refine gV_s rfl (by first | exact trivial | omega) ?_)
  refine gV_i rfl ⟨hx, hl⟩ (fun h1 => ?_) (fun h1 => ?_)
  · repeat (refine gV_s rfl (by first | exact trivial | omega) ?_)
    exact gV_ret rfl (Or.inl rfl) ⟨rfl, Or.inr ⟨by omega, rfl⟩⟩
  · repeat (refine gV_s rfl (by first | exact trivial | omega) ?_)
    refine gV_i rfl ⟨hx, hh⟩ (fun h2 => ?_) (fun h2 => ?_)
    · repeat (refine gV_s rfl (by first | exact trivial | omega) ?_)
      exact gV_ret rfl (Or.inl rfl) ⟨rfl, Or.inr ⟨by omega, rfl⟩⟩
    · repeat (refine gV_s rfl (by first | exact trivial | omega) ?_)
      exact gV_ret rfl (Or.inr rfl) ⟨rfl, Or.inl ⟨by omega, rfl⟩⟩
theorem ok_isBelow {d : Nat} {M : Mem} {x n : Int} (hx : rng x) (hn : rng n) : gOk mX6_isBelow d [vI x, vI n] M (yn (0 ≤ x ∧ x < n) M) := by
  refine gOk_of mX6_isBelow_ok (by simp) (Nat.le_of_ble_eq_true rfl) ?_
  repeat (refine gV_s rfl (by first | exact trivial | omega) ?_)
  refine gV_i rfl hx (fun h1 => ?_) (fun h1 => ?_)
  · repeat (refine gV_s rfl (by first | exact trivial | omega) ?_)
    exact gV_ret rfl (Or.inl rfl) ⟨rfl, Or.inr ⟨by omega, rfl⟩⟩
  · repeat (refine gV_s rfl (by first | exact trivial | omega) ?_)
    refine gV_i rfl ⟨hx, hn⟩ (fun h2 => ?_) (fun h2 => ?_)
    · repeat (refine gV_s rfl (by first | exact trivial | omega) ?_)
      exact gV_ret rfl (Or.inl rfl) ⟨rfl, Or.inr ⟨by omega, rfl⟩⟩
    · repeat (refine gV_s rfl (by first | exact trivial | omega) ?_)
      exact gV_ret rfl (Or.inr rfl) ⟨rfl, Or.inl ⟨by omega, rfl⟩⟩
theorem ok_oneIf {d : Nat} {M : Mem} {x : Int} {P : PV → Mem → Prop} (hx : x = 0 ∨ x = 1) (hP : P (vI x) M) : gOk mX6_oneIf d [vI x] M P := by
  refine gOk_of mX6_oneIf_ok (by simp) (Nat.le_of_ble_eq_true rfl) ?_
  repeat (refine gV_s rfl (by first | exact trivial | omega) ?_)
  refine gV_i rfl (by unfold rng; omega) (fun h1 => ?_) (fun h1 => ?_)
  · repeat (refine gV_s rfl (by first | exact trivial | omega) ?_)
    subst h1
    exact gV_ret rfl trivial hP
  · repeat (refine gV_s rfl (by first | exact trivial | omega) ?_)
    have : x = 1 := by omega
    subst this
    exact gV_ret rfl trivial hP
theorem ok_isUnsettled {d : Nat} {M : Mem} {b : Int} (h0 : 0 ≤ b) (h1 : b < 8) (ht : rng (M 20 b)) (hh : rng (M 21 b)) : gOk mX0_isUnsettled d [vR 2, vI b] M (yn (M 20 b ≠ -6 ∨ M 21 b ≠ 0) M) := by
  refine gOk_of mX0_isUnsettled_ok (by simp) (Nat.le_of_ble_eq_true rfl) ?_
  repeat (refine gV_s rfl (by first | exact trivial | omega) ?_)
  refine gV_i rfl ⟨ht, by unfold rng; omega⟩ (fun h2 => ?_) (fun h2 => ?_)
  · repeat (refine gV_s rfl (by first | exact trivial | omega) ?_)
    refine gV_i rfl hh (fun h3 => ?_) (fun h3 => ?_)
    · repeat (refine gV_s rfl (by first | exact trivial | omega) ?_)
      exact gV_ret rfl (Or.inl rfl) ⟨rfl, Or.inr ⟨by omega, rfl⟩⟩
    · repeat (refine gV_s rfl (by first | exact trivial | omega) ?_)
      exact gV_ret rfl (Or.inr rfl) ⟨rfl, Or.inl ⟨by omega, rfl⟩⟩
  · repeat (refine gV_s rfl (by first | exact trivial | omega) ?_)
    exact gV_ret rfl (Or.inr rfl) ⟨rfl, Or.inl ⟨by omega, rfl⟩⟩
theorem anyUns_loop {d : Nat} {M : Mem} (ht : ∀ b, rng (M 20 b)) (hh : ∀ b, rng (M 21 b)) : ∀ (n b : Nat), b + n = 8 → (∀ j : Int, 0 ≤ j → j < b → M 20 j = -6 ∧ M 21 j = 0) →
    gV mX0_isAnyUnsettled (d + 1) (yn (∃ j : Int, 0 ≤ j ∧ j < 8 ∧ (M 20 j ≠ -6 ∨ M 21 j ≠ 0)) M) 5 [vR 2, vI b] [vI 8, vI b] M
  | 0, b, h, hj => by
    have hb : b = 8 := by omega
    subst hb
    refine gV_it rfl (by unfold rng; omega) (show (8 : Int) ≤ _ by omega) ?_
    repeat (refine gV_s rfl (by first | exact trivial | omega) ?_)
    exact gV_ret rfl (Or.inl rfl) ⟨rfl, Or.inr ⟨fun ⟨j, j0, j1, j2⟩ => by have := hj j j0 j1; omega, rfl⟩⟩
  | n + 1, b, h, hj => by
    have ih := anyUns_loop (d := d) ht hh n (b + 1) (by omega)
    refine gV_in rfl (by unfold rng; omega) (show ¬ (8 : Int) ≤ _ by omega) ?_
    repeat (refine gV_s rfl (by first | exact trivial | omega) ?_)
    refine gV_cV (ok_isUnsettled (b := b) (by omega) (by omega) (ht b) (hh b)) mX0_isUnsettled_ok sX0_X0_isUnsettled rfl rfl rfl rfl rfl rfl ?_
    rintro r M' ⟨rfl, ⟨h2, rfl⟩ | ⟨h2, rfl⟩⟩
    · refine gV_in rfl (by unfold rng; omega) (by omega) ?_
      repeat (refine gV_s rfl (by first | exact trivial | omega) ?_)
      exact gV_ret rfl (Or.inr rfl) ⟨rfl, Or.inl ⟨⟨b, by omega, by omega, h2⟩, rfl⟩⟩
    · refine gV_it rfl (by unfold rng; omega) rfl ?_
      repeat (refine gV_s rfl (by first | exact trivial | omega) ?_)
      refine ih (fun j j0 j1 => ?_)
      by_cases e : j = b
      · subst e; omega
      · exact hj j j0 (by omega)
theorem ok_anyUns {d : Nat} {M : Mem} (ht : ∀ b, rng (M 20 b)) (hh : ∀ b, rng (M 21 b)) : gOk mX0_isAnyUnsettled (d + 1) [vR 2] M (yn (∃ j : Int, 0 ≤ j ∧ j < 8 ∧ (M 20 j ≠ -6 ∨ M 21 j ≠ 0)) M) := by
  refine gOk_of mX0_isAnyUnsettled_ok (by simp) (Nat.le_of_ble_eq_true rfl) ?_
  repeat (refine gV_s rfl (by first | exact trivial | omega) ?_)
  exact anyUns_loop ht hh 8 0 rfl (fun j a b => by omega)
def aFlow (M : Mem) (r : Int) : Mem := mw (mw (mw (mw M 24 (M 3 0) r) 25 (M 3 0) (-1)) 29 (M 3 0) (-6)) 3 0 (M 3 0 + 1)
theorem ok_flowAdd {d : Nat} {M : Mem} {r : Int} {P : PV → Mem → Prop} (h0 : 0 ≤ M 3 0) (h1 : M 3 0 < 16) (hP : P (vI (M 3 0)) (aFlow M r)) : gOk mX1_add d [vR 3, vI r] M P := by
  refine gOk_of mX1_add_ok (by simp) (Nat.le_of_ble_eq_true rfl) ?_
  repeat (refine gV_s rfl (by first | exact trivial | omega) ?_)
  exact gV_ret rfl trivial hP
/-- the bucket of a flow -/
def bkO (M : Mem) (f : Int) : Int := if M 25 f = -1 then (f * M 3 1 + M 3 2) % 8 else M 25 f
theorem fa_bd {f a : Int} (h0 : 0 ≤ f) (h1 : f < 16) (a0 : 0 ≤ a) (a1 : a ≤ 7) : 0 ≤ f * a ∧ f * a ≤ 105 := by
  refine ⟨Int.mul_nonneg h0 a0, ?_⟩
  have h2 : f * a ≤ 15 * a := Int.mul_le_mul_of_nonneg_right (by omega) a0
  omega
theorem ok_bucketOf {d : Nat} {M : Mem} {f : Int} {P : PV → Mem → Prop} (h0 : 0 ≤ f) (h1 : f < 16) (ha : 0 ≤ M 3 1 ∧ M 3 1 ≤ 7) (hc : 0 ≤ M 3 2 ∧ M 3 2 ≤ 7) (hp : rng (M 25 f)) (hP : P (vI (bkO M f)) M) : gOk mX1_bucketOf d [vR 3, vI f] M P := by
  refine gOk_of mX1_bucketOf_ok (by simp) (Nat.le_of_ble_eq_true rfl) ?_
  have hb := fa_bd h0 h1 ha.1 ha.2
  unfold bkO at hP
  repeat (refine gV_s rfl (by first | exact trivial | omega) ?_)
  refine gV_i rfl ⟨hp, by unfold rng; omega⟩ (fun h2 => ?_) (fun h2 => ?_)
  · repeat (refine gV_s rfl (by first | exact trivial | omega) ?_)
    rw [if_pos h2] at hP
    exact gV_ret rfl trivial hP
  · repeat (refine gV_s rfl (by first | exact trivial | omega) ?_)
    rw [if_neg h2] at hP
    exact gV_ret rfl trivial hP
theorem ok_fUnended {d : Nat} {M : Mem} {f : Int} (h0 : 0 ≤ f) (h1 : f < 16) (hr : rng (M 27 f + M 28 f)) (hs : rng (M 26 f)) : gOk mX1_hasUnended d [vR 3, vI f] M (yn (M 27 f + M 28 f < M 26 f) M) := by
  refine gOk_of mX1_hasUnended_ok (by simp) (Nat.le_of_ble_eq_true rfl) ?_
  repeat (refine gV_s rfl (by first | exact trivial | omega) ?_)
  refine gV_i rfl ⟨hr, hs⟩ (fun h2 => ?_) (fun h2 => ?_)
  · repeat (refine gV_s rfl (by first | exact trivial | omega) ?_)
    exact gV_ret rfl (Or.inl rfl) ⟨rfl, Or.inr ⟨by omega, rfl⟩⟩
  · repeat (refine gV_s rfl (by first | exact trivial | omega) ?_)
    exact gV_ret rfl (Or.inr rfl) ⟨rfl, Or.inl ⟨by omega, rfl⟩⟩
theorem ok_noteOut {d : Nat} {M : Mem} {f p : Int} {P : PV → Mem → Prop} (h0 : 0 ≤ f) (h1 : f < 16) (hp : rng p) (hl : rng (M 29 f)) (hP : P none (aNote M f p)) : gOk mX1_noteOut d [vR 3, vI f, vI p] M P := by
  refine gOk_of mX1_noteOut_ok (by simp) (Nat.le_of_ble_eq_true rfl) ?_
  have e : mw M 27 f (M 27 f + 1) 29 = M 29 := mw_rn _ _ _ (by decide)
  unfold aNote at hP
  simp only [e] at hP
  repeat (refine gV_s rfl (by first | exact trivial | omega) ?_)
  refine gV_i rfl ⟨hp, by rw [e]; exact hl⟩ (fun h2 => ?_) (fun h2 => ?_)
  · rw [e] at h2
    rw [if_neg (by omega)] at hP
    repeat (refine gV_s rfl (by first | exact trivial | omega) ?_)
    exact gV_retv rfl trivial hP
  · rw [e] at h2
    rw [if_pos (by omega)] at hP
    repeat (refine gV_s rfl (by first | exact trivial | omega) ?_)
    exact gV_retv rfl trivial hP
theorem ok_turn {d : Nat} {M : Mem} {i s : Int} {P : PV → Mem → Prop} (h0 : 0 ≤ i) (h1 : i < 400) (hs : 0 ≤ s ∧ s < 6) (hst : 0 ≤ M 34 i ∧ M 34 i ≤ 5) (hP : P none (aTurn M i s)) : gOk mX2_turn d [vR 4, vI i, vI s] M P := by
  refine gOk_of mX2_turn_ok (by simp) (Nat.le_of_ble_eq_true rfl) ?_
  repeat (refine gV_s rfl (by first | exact trivial | omega) ?_)
  exact gV_retv rfl trivial hP
theorem ok_lUnended {d : Nat} {M : Mem} (hr : rng (M 41 4 + M 41 5)) (hs : rng (M 4 0)) : gOk mX2_hasUnended d [vR 4] M (yn (M 41 4 + M 41 5 < M 4 0) M) := by
  refine gOk_of mX2_hasUnended_ok (by simp) (Nat.le_of_ble_eq_true rfl) ?_
  repeat (refine gV_s rfl (by first | exact trivial | omega) ?_)
  refine gV_i rfl ⟨hr, hs⟩ (fun h2 => ?_) (fun h2 => ?_)
  · repeat (refine gV_s rfl (by first | exact trivial | omega) ?_)
    exact gV_ret rfl (Or.inl rfl) ⟨rfl, Or.inr ⟨by omega, rfl⟩⟩
  · repeat (refine gV_s rfl (by first | exact trivial | omega) ?_)
    exact gV_ret rfl (Or.inr rfl) ⟨rfl, Or.inl ⟨by omega, rfl⟩⟩
theorem ok_underway {d : Nat} {M : Mem} (hr : rng (M 41 1 + M 41 2 + M 41 3)) : gOk mX2_isAnyUnderway d [vR 4] M (yn (0 < M 41 1 + M 41 2 + M 41 3) M) := by
  refine gOk_of mX2_isAnyUnderway_ok (by simp) (Nat.le_of_ble_eq_true rfl) ?_
  repeat (refine gV_s rfl (by first | exact trivial | omega) ?_)
  refine gV_i rfl hr (fun h2 => ?_) (fun h2 => ?_)
  · repeat (refine gV_s rfl (by first | exact trivial | omega) ?_)
    exact gV_ret rfl (Or.inl rfl) ⟨rfl, Or.inr ⟨by omega, rfl⟩⟩
  · repeat (refine gV_s rfl (by first | exact trivial | omega) ?_)
    exact gV_ret rfl (Or.inr rfl) ⟨rfl, Or.inl ⟨by omega, rfl⟩⟩
/-- a new letter, held by nobody yet -/
def aAdd (M : Mem) (f p b t : Int) : Mem :=
  let n := M 4 0
  let M1 := mw (mw (mw (mw (mw (mw (mw (mw (mw M 31 n f) 32 n p) 33 n b) 34 n 0) 35 n (-6)) 36 n t) 37 n (-6)) 38 n (-6)) 39 n (-6)
  mw (mw M1 41 0 (M1 41 0 + 1)) 4 0 (M 4 0 + 1)
theorem ok_letterAdd {d : Nat} {M : Mem} {f p b t : Int} {P : PV → Mem → Prop} (h0 : 0 ≤ M 4 0) (h1 : M 4 0 < 400) (hP : P (vI (M 4 0)) (aAdd M f p b t)) : gOk mX2_add d [vR 4, vI f, vI p, vI b, vI t] M P := by
  refine gOk_of mX2_add_ok (by simp) (Nat.le_of_ble_eq_true rfl) ?_
  repeat (refine gV_s rfl (by first | exact trivial | omega) ?_)
  exact gV_ret rfl trivial hP
def aLink0 (M : Mem) (s dl : Int) : Mem := mw (mw (mw (mw M 7 (M 1 0) s) 8 (M 1 0) dl) 9 (M 1 0) 1) 1 0 (M 1 0 + 1)
theorem ok_linkAdd {d : Nat} {M : Mem} {s dl : Int} {P : PV → Mem → Prop} (h0 : 0 ≤ M 1 0) (h1 : M 1 0 < 4) (hP : P (vI (M 1 0)) (aLink0 M s dl)) : gOk mX3_add d [vR 1, vI s, vI dl] M P := by
  refine gOk_of mX3_add_ok (by simp) (Nat.le_of_ble_eq_true rfl) ?_
  repeat (refine gV_s rfl (by first | exact trivial | omega) ?_)
  exact gV_ret rfl trivial hP
