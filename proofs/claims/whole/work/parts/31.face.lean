/-! The class's face: calls that change. -/
def oLink (S : Mem) (s d : Int) : Int × Mem := if (1 ≤ s ∧ s ≤ 8) ∧ 1 ≤ d ∧ d ≤ 30 then (if 4 ≤ S 1 0 then (-4, S) else (S 1 0, aLink S s d)) else (-2, S)
def oFlow (S : Mem) (r : Int) : Int × Mem := if 0 ≤ r ∧ r ≤ 100 then (if 16 ≤ S 3 0 then (-4, S) else (S 3 0, aFlow S r)) else (-2, S)
def oRate (S : Mem) (f r : Int) : Int × Mem := if 0 ≤ f ∧ f < S 3 0 then (if 0 ≤ r ∧ r ≤ 100 then (S 24 f, mw S 24 f r) else (-2, S)) else (-1, S)
def oPin (S : Mem) (f b : Int) : Int × Mem := if 0 ≤ f ∧ f < S 3 0 then (if -1 ≤ b ∧ b < 8 then (if S 27 f + S 28 f < S 26 f then (-3, S) else (bkO S f, mw S 25 f b)) else (-2, S)) else (-1, S)
def oHash (S : Mem) (a c : Int) : Int × Mem := if (0 ≤ a ∧ a ≤ 7) ∧ 0 ≤ c ∧ c ≤ 7 then (if S 41 4 + S 41 5 < S 4 0 then (-3, S) else (1, mw (mw S 3 1 a) 3 2 c)) else (-2, S)
def oNumbers (S : Mem) (v : Int) : Int × Mem := if S 41 4 + S 41 5 < S 4 0 then (-3, S) else (S 5 1, mw S 5 1 v)
def aSend (S : Mem) (f : Int) : Nat → Mem
  | 0 => S
  | k + 1 => aPost (aSend S f k) f
def oSend (S : Mem) (f n : Int) : Int × Mem := if 0 ≤ f ∧ f < S 3 0 then (if 1 ≤ n ∧ n ≤ 50 then (if 400 < S 4 0 + n then (-4, S) else (S 4 0 + n, aSend S f n.toNat)) else (-2, S)) else (-1, S)
def oTick (S : Mem) (n : Int) : Int × Mem := if 0 ≤ n ∧ n ≤ 500 then (S 5 0 + n, aTicks S n.toNat) else (-2, S)
def oMove (S : Mem) (b l how : Int) : Int × Mem :=
  if (0 ≤ b ∧ b < 8) ∧ 0 ≤ l ∧ l < S 1 0 then (if 0 ≤ how ∧ how ≤ 2 then (if S 19 b = -6 ∨ S 20 b ≠ -6 ∨ S 21 b ≠ 0 then (-3, S) else (if S 9 l = 0 ∨ S 19 b = l ∨ (how = 2 ∧ S 5 1 = 0) then (-5, S) else (if aMove S b l how 20 b = -6 then 1 else 0, aMove S b l how))) else (-2, S)) else (-1, S)
def oDrop (S : Mem) (b : Int) : Int × Mem := if 0 ≤ b ∧ b < 8 then (if S 20 b = -6 then (-3, S) else (S 22 b, aCancel S b)) else (-1, S)
def oFail (S : Mem) (l : Int) : Int × Mem := if 0 ≤ l ∧ l < S 1 0 then (if S 9 l = 0 then (-3, S) else (S 17 l - S 15 l, aFail S l)) else (-1, S)
def oBack (S : Mem) (l : Int) : Int × Mem := if 0 ≤ l ∧ l < S 1 0 then (if S 9 l = 0 then (ct (is_ (S 19) (-6)) 8, aBack S l) else (-3, S)) else (-1, S)
/-- the class does as told -/
def does (o : Int × Mem) : PV → Mem → Prop := fun r M' => r = vI o.1 ∧ M' = o.2
theorem doesP {o : Int × Mem} {v : Int} {M : Mem} (h : o = (v, M)) : does o (vI v) M := by subst h; exact ⟨rfl, rfl⟩
theorem ok_cLink {d : Nat} {M : Mem} {s dl : Int} (h : NI M) (hs : rng s) (hd : rng dl) : gOk mX6_link (d + 4) [vR 0, vI s, vI dl] M (does (oLink M s dl)) := by
  have hL := h.1.1
  refine gOk_of mX6_link_ok (by simp) (Nat.le_of_ble_eq_true rfl) ?_
  repeat (refine gV_s rfl (by first | exact trivial | omega) ?_)
  refine gV_cS (ok_isWithin (d := d + 3) (M := M) hs (by unfold rng; omega) (by unfold rng; omega)) mX6_isWithin_ok sX6_X6_isWithin rfl rfl rfl rfl ?_
  rintro r M' ⟨rfl, ⟨h1, rfl⟩ | ⟨h1, rfl⟩⟩
  · refine gV_in rfl (by unfold rng; omega) (by omega) ?_
    repeat (refine gV_s rfl (by first | exact trivial | omega) ?_)
    refine gV_cS (ok_isWithin (d := d + 3) (M := M') hd (by unfold rng; omega) (by unfold rng; omega)) mX6_isWithin_ok sX6_X6_isWithin rfl rfl rfl rfl ?_
    rintro r M'' ⟨rfl, ⟨h2, rfl⟩ | ⟨h2, rfl⟩⟩
    · refine gV_in rfl (by unfold rng; omega) (by omega) ?_
      repeat (refine gV_s rfl (by first | exact trivial | omega) ?_)
      refine gV_i rfl (by unfold rng; omega) (fun h3 => ?_) (fun h3 => ?_)
      · repeat (refine gV_s rfl (by first | exact trivial | omega) ?_)
        refine gV_cV (ok_linkAdd (d := d + 3) (P := fun r M' => r = vI (M'' 1 0) ∧ M' = aLink0 M'' s dl) hL.1 h3 ⟨rfl, rfl⟩) mX3_add_ok sX6_X3_add rfl rfl rfl rfl rfl rfl ?_
        rintro r M' ⟨rfl, rfl⟩
        repeat (refine gV_s rfl (by first | exact trivial | omega) ?_)
        refine gV_cV (ok_takeIn (d := d) (P := fun r M' => (∃ v, r = vI v) ∧ M' = aLink M'' s dl) (AI_link0 h h3 h1 h2) (by unfold aLink0; simp only [mw_rs, mw_rn, ne_eq, not_false_eq_true, Nat.reduceEqDiff, Nat.reduceLT, Nat.reduceLeDiff, true_or, or_true, forall_const, up1_s]) ⟨⟨_, rfl⟩, rfl⟩) mX5_takeIn_ok sX6_X5_takeIn rfl rfl rfl rfl rfl rfl ?_
        rintro r M' ⟨⟨v, rfl⟩, rfl⟩
        repeat (refine gV_s rfl (by first | exact trivial | omega) ?_)
        exact gV_ret rfl trivial (doesP (by unfold oLink; rw [if_pos ⟨h1, h2⟩, if_neg (by omega)]))
      · repeat (refine gV_s rfl (by first | exact trivial | omega) ?_)
        exact gV_ret rfl trivial (doesP (by unfold oLink; rw [if_pos ⟨h1, h2⟩, if_pos (by omega)]))
    · refine gV_it rfl (by unfold rng; omega) rfl ?_
      repeat (refine gV_s rfl (by first | exact trivial | omega) ?_)
      exact gV_ret rfl trivial (doesP (by unfold oLink; rw [if_neg (fun q => h2 q.2)]))
  · refine gV_it rfl (by unfold rng; omega) rfl ?_
    repeat (refine gV_s rfl (by first | exact trivial | omega) ?_)
    exact gV_ret rfl trivial (doesP (by unfold oLink; rw [if_neg (fun q => h1 q.1)]))
theorem ok_cFlow {d : Nat} {M : Mem} {x : Int} (h : NI M) (hx : rng x) : gOk mX6_flow (d + 1) [vR 0, vI x] M (does (oFlow M x)) := by
  have hF := h.1.2.1
  refine gOk_of mX6_flow_ok (by simp) (Nat.le_of_ble_eq_true rfl) ?_
  repeat (refine gV_s rfl (by first | exact trivial | omega) ?_)
  refine gV_cS (ok_isWithin (d := d) (M := M) hx (by unfold rng; omega) (by unfold rng; omega)) mX6_isWithin_ok sX6_X6_isWithin rfl rfl rfl rfl ?_
  rintro r M' ⟨rfl, ⟨h1, rfl⟩ | ⟨h1, rfl⟩⟩
  · refine gV_in rfl (by unfold rng; omega) (by omega) ?_
    repeat (refine gV_s rfl (by first | exact trivial | omega) ?_)
    refine gV_i rfl (by unfold rng; omega) (fun h3 => ?_) (fun h3 => ?_)
    · repeat (refine gV_s rfl (by first | exact trivial | omega) ?_)
      refine gV_cV (ok_flowAdd (d := d) (P := does (oFlow M' x)) hF.1 h3 (doesP (by unfold oFlow; rw [if_pos h1, if_neg (by omega)]))) mX1_add_ok sX6_X1_add rfl rfl rfl rfl rfl rfl ?_
      rintro r M'' ⟨rfl, rfl⟩
      exact gV_ret rfl trivial ⟨rfl, rfl⟩
    · repeat (refine gV_s rfl (by first | exact trivial | omega) ?_)
      exact gV_ret rfl trivial (doesP (by unfold oFlow; rw [if_pos h1, if_pos (by omega)]))
  · refine gV_it rfl (by unfold rng; omega) rfl ?_
    repeat (refine gV_s rfl (by first | exact trivial | omega) ?_)
    exact gV_ret rfl trivial (doesP (by unfold oFlow; rw [if_neg h1]))
theorem ok_cRate {d : Nat} {M : Mem} {f x : Int} (h : NI M) (hf : rng f) (hx : rng x) : gOk mX6_rate (d + 1) [vR 0, vI f, vI x] M (does (oRate M f x)) := by
  have hF := h.1.2.1
  refine gOk_of mX6_rate_ok (by simp) (Nat.le_of_ble_eq_true rfl) ?_
  repeat (refine gV_s rfl (by first | exact trivial | omega) ?_)
  refine gV_cS (ok_isBelow (d := d) (M := M) hf (by unfold rng; omega)) mX6_isBelow_ok sX6_X6_isBelow rfl rfl rfl rfl ?_
  rintro r M' ⟨rfl, ⟨h1, rfl⟩ | ⟨h1, rfl⟩⟩
  · refine gV_in rfl (by unfold rng; omega) (by omega) ?_
    repeat (refine gV_s rfl (by first | exact trivial | omega) ?_)
    refine gV_cS (ok_isWithin (d := d) (M := M') hx (by unfold rng; omega) (by unfold rng; omega)) mX6_isWithin_ok sX6_X6_isWithin rfl rfl rfl rfl ?_
    rintro r M'' ⟨rfl, ⟨h2, rfl⟩ | ⟨h2, rfl⟩⟩
    · refine gV_in rfl (by unfold rng; omega) (by omega) ?_
      repeat (refine gV_s rfl (by first | exact trivial | omega) ?_)
      exact gV_ret rfl trivial (doesP (by unfold oRate; rw [if_pos h1, if_pos h2]))
    · refine gV_it rfl (by unfold rng; omega) rfl ?_
      repeat (refine gV_s rfl (by first | exact trivial | omega) ?_)
      exact gV_ret rfl trivial (doesP (by unfold oRate; rw [if_pos h1, if_neg h2]))
  · refine gV_it rfl (by unfold rng; omega) rfl ?_
    repeat (refine gV_s rfl (by first | exact trivial | omega) ?_)
    exact gV_ret rfl trivial (doesP (by unfold oRate; rw [if_neg h1]))
theorem AI_fl {M : Mem} {lo : Int → Int} {x : Int} (h : AI M lo x) {f : Int} (f0 : 0 ≤ f) (f1 : f < 16) : (0 ≤ M 26 f ∧ M 26 f ≤ 400) ∧ (0 ≤ M 27 f ∧ M 27 f ≤ 400) ∧ (0 ≤ M 28 f ∧ M 28 f ≤ 400) := by
  have h4 := h.1.2.2.1
  have k := h.2.2.2.2.2.2.2.2.2.1 f f0 f1
  have n1 := ct_nn (fun j => decide (M 31 j = f)) (M 4 0).toNat
  have n2 := ct_nn (fun j => decide (M 34 j = 4 ∧ M 31 j = f)) (M 4 0).toNat
  have n3 := ct_nn (fun j => decide (M 34 j = 5 ∧ M 31 j = f)) (M 4 0).toNat
  omega
theorem ok_cPin {d : Nat} {M : Mem} {f b : Int} (h : NI M) (hf : rng f) (hb : rng b) : gOk mX6_pin (d + 1) [vR 0, vI f, vI b] M (does (oPin M f b)) := by
  have hF := h.1.2.1
  have ha := h.1.2.2.2.2.2
  refine gOk_of mX6_pin_ok (by simp) (Nat.le_of_ble_eq_true rfl) ?_
  repeat (refine gV_s rfl (by first | exact trivial | omega) ?_)
  refine gV_cS (ok_isBelow (d := d) (M := M) hf (by unfold rng; omega)) mX6_isBelow_ok sX6_X6_isBelow rfl rfl rfl rfl ?_
  rintro r M' ⟨rfl, ⟨h1, rfl⟩ | ⟨h1, rfl⟩⟩
  · refine gV_in rfl (by unfold rng; omega) (by omega) ?_
    have hfl := AI_fl h h1.1 (by omega)
    have hff := h.2.2.2.2.2.1 f
    have fin : (-1 ≤ b ∧ b < 8) → gV mX6_pin (d + 1) (does (oPin M' f b)) 33 [vR 0, vI f, vI b, none] [] M' := by
      intro h2
      repeat (refine gV_s rfl (by first | exact trivial | omega) ?_)
      refine gV_cV (ok_fUnended (d := d) (M := M') (f := f) h1.1 (by omega) (by unfold rng; omega) (by unfold rng; omega)) mX1_hasUnended_ok sX6_X1_hasUnended rfl rfl rfl rfl rfl rfl ?_
      rintro r M'' ⟨rfl, ⟨h3, rfl⟩ | ⟨h3, rfl⟩⟩
      · refine gV_in rfl (by unfold rng; omega) (by omega) ?_
        repeat (refine gV_s rfl (by first | exact trivial | omega) ?_)
        exact gV_ret rfl trivial (doesP (by unfold oPin; rw [if_pos h1, if_pos h2, if_pos h3]))
      · refine gV_it rfl (by unfold rng; omega) rfl ?_
        repeat (refine gV_s rfl (by first | exact trivial | omega) ?_)
        refine gV_cV (ok_bucketOf (d := d) (P := fun r M' => r = vI (bkO M'' f) ∧ M' = M'') h1.1 (by omega) ha.1 ha.2.1 (by unfold rng; omega) ⟨rfl, rfl⟩) mX1_bucketOf_ok sX6_X1_bucketOf rfl rfl rfl rfl rfl rfl ?_
        rintro r M' ⟨rfl, rfl⟩
        repeat (refine gV_s rfl (by first | exact trivial | omega) ?_)
        exact gV_ret rfl trivial (doesP (by unfold oPin; rw [if_pos h1, if_pos h2, if_neg h3]))
    unfold rng at hb
    repeat (refine gV_s rfl (by first | exact trivial | omega) ?_)
    refine gV_i rfl (by unfold rng; omega) (fun h2 => ?_) (fun h2 => ?_)
    · exact fin (by omega)
    · repeat (refine gV_s rfl (by first | exact trivial | omega) ?_)
      refine gV_cS (ok_isBelow (d := d) (M := M') (x := b) (by unfold rng; omega) (by unfold rng; omega)) mX6_isBelow_ok sX6_X6_isBelow rfl rfl rfl rfl ?_
      rintro r M'' ⟨rfl, ⟨h3, rfl⟩ | ⟨h3, rfl⟩⟩
      · exact gV_in rfl (by unfold rng; omega) (by omega) (fin (by omega))
      · refine gV_it rfl (by unfold rng; omega) rfl ?_
        repeat (refine gV_s rfl (by first | exact trivial | omega) ?_)
        exact gV_ret rfl trivial (doesP (by unfold oPin; rw [if_pos h1, if_neg (by omega)]))
  · refine gV_it rfl (by unfold rng; omega) rfl ?_
    repeat (refine gV_s rfl (by first | exact trivial | omega) ?_)
    exact gV_ret rfl trivial (doesP (by unfold oPin; rw [if_neg h1]))
theorem ok_cHash {d : Nat} {M : Mem} {a c : Int} (h : NI M) (ha : rng a) (hc : rng c) : gOk mX6_hash (d + 1) [vR 0, vI a, vI c] M (does (oHash M a c)) := by
  have hn := h.1.2.2.1
  have n4 := AI_ins h (s := 4) (by decide) (by decide)
  have n5 := AI_ins h (s := 5) (by decide) (by decide)
  refine gOk_of mX6_hash_ok (by simp) (Nat.le_of_ble_eq_true rfl) ?_
  repeat (refine gV_s rfl (by first | exact trivial | omega) ?_)
  refine gV_cS (ok_isWithin (d := d) (M := M) ha (by unfold rng; omega) (by unfold rng; omega)) mX6_isWithin_ok sX6_X6_isWithin rfl rfl rfl rfl ?_
  rintro r M' ⟨rfl, ⟨h1, rfl⟩ | ⟨h1, rfl⟩⟩
  · refine gV_in rfl (by unfold rng; omega) (by omega) ?_
    repeat (refine gV_s rfl (by first | exact trivial | omega) ?_)
    refine gV_cS (ok_isWithin (d := d) (M := M') hc (by unfold rng; omega) (by unfold rng; omega)) mX6_isWithin_ok sX6_X6_isWithin rfl rfl rfl rfl ?_
    rintro r M'' ⟨rfl, ⟨h2, rfl⟩ | ⟨h2, rfl⟩⟩
    · refine gV_in rfl (by unfold rng; omega) (by omega) ?_
      repeat (refine gV_s rfl (by first | exact trivial | omega) ?_)
      refine gV_cV (ok_lUnended (d := d) (M := M'') (by unfold rng; omega) (by unfold rng; omega)) mX2_hasUnended_ok sX6_X2_hasUnended rfl rfl rfl rfl rfl rfl ?_
      rintro r M' ⟨rfl, ⟨h3, rfl⟩ | ⟨h3, rfl⟩⟩
      · refine gV_in rfl (by unfold rng; omega) (by omega) ?_
        repeat (refine gV_s rfl (by first | exact trivial | omega) ?_)
        exact gV_ret rfl trivial (doesP (by unfold oHash; rw [if_pos ⟨h1, h2⟩, if_pos h3]))
      · refine gV_it rfl (by unfold rng; omega) rfl ?_
        repeat (refine gV_s rfl (by first | exact trivial | omega) ?_)
        exact gV_ret rfl trivial (doesP (by unfold oHash; rw [if_pos ⟨h1, h2⟩, if_neg h3]))
    · refine gV_it rfl (by unfold rng; omega) rfl ?_
      repeat (refine gV_s rfl (by first | exact trivial | omega) ?_)
      exact gV_ret rfl trivial (doesP (by unfold oHash; rw [if_neg (fun q => h2 q.2)]))
  · refine gV_it rfl (by unfold rng; omega) rfl ?_
    repeat (refine gV_s rfl (by first | exact trivial | omega) ?_)
    exact gV_ret rfl trivial (doesP (by unfold oHash; rw [if_neg (fun q => h1 q.1)]))
theorem ok_cNumbers {d : Nat} {M : Mem} {v : Int} (h : NI M) (hv : v = 0 ∨ v = 1) : gOk mX6_numbers (d + 1) [vR 0, vI v] M (does (oNumbers M v)) := by
  have hn := h.1.2.2.1
  have hno := h.1.2.2.2.2.1
  have n4 := AI_ins h (s := 4) (by decide) (by decide)
  have n5 := AI_ins h (s := 5) (by decide) (by decide)
  refine gOk_of mX6_numbers_ok (by simp) (Nat.le_of_ble_eq_true rfl) ?_
  repeat (refine gV_s rfl (by first | exact trivial | omega) ?_)
  refine gV_cV (ok_lUnended (d := d) (M := M) (by unfold rng; omega) (by unfold rng; omega)) mX2_hasUnended_ok sX6_X2_hasUnended rfl rfl rfl rfl rfl rfl ?_
  rintro r M' ⟨rfl, ⟨h3, rfl⟩ | ⟨h3, rfl⟩⟩
  · refine gV_in rfl (by unfold rng; omega) (by omega) ?_
    repeat (refine gV_s rfl (by first | exact trivial | omega) ?_)
    exact gV_ret rfl trivial (doesP (by unfold oNumbers; rw [if_pos h3]))
  · refine gV_it rfl (by unfold rng; omega) rfl ?_
    repeat (refine gV_s rfl (by first | exact trivial | omega) ?_)
    refine gV_cS (ok_oneIf (d := d) (P := fun r M'' => r = vI (M' 5 1) ∧ M'' = M') hno ⟨rfl, rfl⟩) mX6_oneIf_ok sX6_X6_oneIf rfl rfl rfl rfl ?_
    rintro r M'' ⟨rfl, rfl⟩
    repeat (refine gV_s rfl (by first | exact trivial | omega) ?_)
    exact gV_ret rfl trivial (doesP (by unfold oNumbers; rw [if_neg h3]))
/-! sending -/
theorem aAdd_4 (S : Mem) (f p b t : Int) : aAdd S f p b t 4 = up1 (S 4) 0 (S 4 0 + 1) := by unfold aAdd; simp only [mw_rs, mw_rn, ne_eq, not_false_eq_true, Nat.reduceEqDiff, Nat.reduceLT, Nat.reduceLeDiff, true_or, or_true, forall_const]
theorem aPost_4 {S : Mem} {lo : Int → Int} {f : Int} (h : AI S lo (-1)) : aPost S f 4 0 = S 4 0 + 1 := by
  have hb := AI_bk h (bkO S f)
  unfold aPost
  split
  · rw [(aNew_rows S f _).2.2.2.2.2.2.2.1, up1_s]
  · rw [aEnq_o _ _ _ (by decide) (by decide) (by decide) (by decide) (by omega)]
    unfold aPost0
    rw [mw_rn _ _ _ (by decide), aAdd_4, up1_s]
theorem aPost_r {S : Mem} {lo : Int → Int} {f : Int} (h : AI S lo (-1)) {r : Nat} (hr : r = 1 ∨ r = 3 ∨ r = 5 ∨ r = 9 ∨ r = 19 ∨ r = 21 ∨ r = 24 ∨ r = 25 ∨ 42 ≤ r) : aPost S f r = S r := by
  have hb := AI_bk h (bkO S f)
  unfold aPost
  split
  · rw [aNew_o _ _ _ (by omega) (by omega)]
  · rw [aEnq_o _ _ _ (by omega) (by omega) (by omega) (by omega) (by omega)]
    unfold aPost0 aAdd
    rw [mw_rn _ _ _ (by omega), mw_rn _ _ _ (by omega), mw_rn _ _ _ (by omega), mw_rn _ _ _ (by omega), mw_rn _ _ _ (by omega), mw_rn _ _ _ (by omega), mw_rn _ _ _ (by omega), mw_rn _ _ _ (by omega), mw_rn _ _ _ (by omega), mw_rn _ _ _ (by omega), mw_rn _ _ _ (by omega), mw_rn _ _ _ (by omega)]
theorem AI_send {S : Mem} {lo : Int → Int} {f : Int} (h : AI S lo (-1)) (f0 : 0 ≤ f) (f1 : f < S 3 0) : ∀ k : Nat, S 4 0 + k ≤ 400 → AI (aSend S f k) lo (-1) ∧ aSend S f k 4 0 = S 4 0 + k ∧ aSend S f k 3 = S 3 ∧ aSend S f k 5 = S 5
  | 0, _ => ⟨h, by simp [aSend], rfl, rfl⟩
  | k + 1, hk => by
    obtain ⟨i1, i2, i3, i4⟩ := AI_send h f0 f1 k (by omega)
    refine ⟨AI_post i1 f0 (by rw [i3]; exact f1) (by omega), ?_, ?_, ?_⟩
    · rw [aSend, aPost_4 i1, i2]; push_cast; omega
    · rw [aSend, aPost_r i1 (by omega), i3]
    · rw [aSend, aPost_r i1 (by omega), i4]
theorem send_loop {d : Nat} {S : Mem} {f x : Int} {P : PV → Mem → Prop} (h : NI S) (f0 : 0 ≤ f) (f1 : f < S 3 0) (hx : 1 ≤ x ∧ x ≤ 50) (hc : S 4 0 + x ≤ 400) (hP : P (vI (S 4 0 + x)) (aSend S f x.toNat)) : ∀ (n k : Nat), (k : Int) + n = x → gV mX6_send (d + 3) P 51 [vR 0, vI f, vI x, vI k] [vI x, vI k] (aSend S f k)
  | 0, k, hk => by
    have e : k = x.toNat := by omega
    subst e
    obtain ⟨i1, i2, i3, i4⟩ := AI_send h f0 f1 x.toNat (by omega)
    refine gV_it rfl (by unfold rng; omega) (by omega) ?_
    repeat (refine gV_s rfl (by first | exact trivial | omega) ?_)
    rw [i2, show ((x.toNat : Nat) : Int) = x by omega]
    exact gV_ret rfl trivial hP
  | n + 1, k, hk => by
    obtain ⟨i1, i2, i3, i4⟩ := AI_send h f0 f1 k (by omega)
    have ih := send_loop (d := d) h f0 f1 hx hc hP n (k + 1) (by push_cast; omega)
    refine gV_in rfl (by unfold rng; omega) (by omega) ?_
    repeat (refine gV_s rfl (by first | exact trivial | omega) ?_)
    refine gV_cV (ok_post (d := d) (P := fun r M' => r = none ∧ M' = aPost (aSend S f k) f) i1 f0 (by rw [i3]; exact f1) (by omega) ⟨rfl, rfl⟩) mX5_post_ok sX6_X5_post rfl rfl rfl rfl rfl rfl ?_
    rintro r M' ⟨rfl, rfl⟩
    repeat (refine gV_s rfl (by first | exact trivial | omega) ?_)
    exact ih
theorem ok_cSend {d : Nat} {M : Mem} {f x : Int} (h : NI M) (hf : rng f) (hx : rng x) : gOk mX6_send (d + 3) [vR 0, vI f, vI x] M (does (oSend M f x)) := by
  have hF := h.1.2.1
  have hn := h.1.2.2.1
  refine gOk_of mX6_send_ok (by simp) (Nat.le_of_ble_eq_true rfl) ?_
  repeat (refine gV_s rfl (by first | exact trivial | omega) ?_)
  refine gV_cS (ok_isBelow (d := d + 2) (M := M) hf (by unfold rng; omega)) mX6_isBelow_ok sX6_X6_isBelow rfl rfl rfl rfl ?_
  rintro r M' ⟨rfl, ⟨h1, rfl⟩ | ⟨h1, rfl⟩⟩
  · refine gV_in rfl (by unfold rng; omega) (by omega) ?_
    repeat (refine gV_s rfl (by first | exact trivial | omega) ?_)
    refine gV_cS (ok_isWithin (d := d + 2) (M := M') hx (by unfold rng; omega) (by unfold rng; omega)) mX6_isWithin_ok sX6_X6_isWithin rfl rfl rfl rfl ?_
    rintro r M'' ⟨rfl, ⟨h2, rfl⟩ | ⟨h2, rfl⟩⟩
    · refine gV_in rfl (by unfold rng; omega) (by omega) ?_
      repeat (refine gV_s rfl (by first | exact trivial | omega) ?_)
      refine gV_i rfl (by unfold rng; omega) (fun h3 => ?_) (fun h3 => ?_)
      · repeat (refine gV_s rfl (by first | exact trivial | omega) ?_)
        exact send_loop h h1.1 h1.2 h2 h3 (doesP (by unfold oSend; rw [if_pos h1, if_pos h2, if_neg (by omega)])) x.toNat 0 (by omega)
      · repeat (refine gV_s rfl (by first | exact trivial | omega) ?_)
        exact gV_ret rfl trivial (doesP (by unfold oSend; rw [if_pos h1, if_pos h2, if_pos (by omega)]))
    · refine gV_it rfl (by unfold rng; omega) rfl ?_
      repeat (refine gV_s rfl (by first | exact trivial | omega) ?_)
      exact gV_ret rfl trivial (doesP (by unfold oSend; rw [if_pos h1, if_neg h2]))
  · refine gV_it rfl (by unfold rng; omega) rfl ?_
    repeat (refine gV_s rfl (by first | exact trivial | omega) ?_)
    exact gV_ret rfl trivial (doesP (by unfold oSend; rw [if_neg h1]))
/-! ticks -/
theorem idle_ticks {S : Mem} (h : NI S) : ∀ (j k : Nat), idle (aTicks S k) → S 5 0 + (k + j : Nat) ≤ 1000000 → aTicks S (k + j) = mw (aTicks S k) 5 0 (S 5 0 + (k + j : Nat)) ∧ idle (aTicks S (k + j))
  | 0, k, hi, hb => by
    obtain ⟨h1, h2⟩ := NI_ticks h k (by omega)
    refine ⟨?_, hi⟩
    show aTicks S k = _
    rw [show S 5 0 + ((k + 0 : Nat) : Int) = aTicks S k 5 0 by rw [h2]; simp, mw_id]
  | j + 1, k, hi, hb => by
    obtain ⟨i1, i2⟩ := idle_ticks h j k hi (by push_cast at hb ⊢; omega)
    obtain ⟨h1, h2⟩ := NI_ticks h (k + j) (by push_cast at hb ⊢; omega)
    have e : aTicks S (k + (j + 1)) = tk1 (aTicks S (k + j)) := by
      show aTick (aTicks S (k + j)) = _
      exact idle_tick h1 i2
    have e2 : tk1 (aTicks S (k + j)) = mw (aTicks S k) 5 0 (S 5 0 + (k + (j + 1) : Nat)) := by
      unfold tk1
      rw [h2]
      conv => lhs; rw [i1]
      rw [mw_mw]
      congr 1
      push_cast
      omega
    refine ⟨e.trans e2, ?_⟩
    rw [e]
    unfold idle tk1
    simp only [mw_rn, ne_eq, not_false_eq_true, Nat.reduceEqDiff, Nat.reduceLT, Nat.reduceLeDiff, true_or, or_true, forall_const]
    exact i2
theorem tick_loop {d : Nat} {S : Mem} {x : Int} {P : PV → Mem → Prop} (h : NI S) (hx : 0 ≤ x ∧ x ≤ 500) (ht : S 5 0 + x ≤ 1000000) (hP : P (vI (S 5 0 + x)) (aTicks S x.toNat)) : ∀ (n k : Nat), (k : Int) + n = x → gV mX6_tick (d + 6) P 28 [vR 0, vI x, vI (S 5 0 + x), vI k] [vI x, vI k] (aTicks S k)
  | 0, k, hk => by
    have e : k = x.toNat := by omega
    obtain ⟨h1, h2⟩ := NI_ticks h k (by omega)
    have htt := h1.1.2.2.2.1
    refine gV_it rfl (by unfold rng; omega) (by omega) ?_
    repeat (refine gV_s rfl (by first | exact trivial | omega) ?_)
    refine gV_ret rfl trivial ?_
    have e2 : mw (aTicks S k) 5 0 (S 5 0 + x) = aTicks S x.toNat := by
      rw [show S 5 0 + x = aTicks S k 5 0 by rw [h2]; omega, mw_id, e]
    rw [e2]
    exact hP
  | n + 1, k, hk => by
    obtain ⟨h1, h2⟩ := NI_ticks h k (by omega)
    have ih := tick_loop (d := d) h hx ht hP n (k + 1) (by push_cast; omega)
    refine gV_in rfl (by unfold rng; omega) (by omega) ?_
    repeat (refine gV_s rfl (by first | exact trivial | omega) ?_)
    refine gV_cV (ok_isBusy (d := d + 3) h1) mX5_isBusy_ok sX6_X5_isBusy rfl rfl rfl rfl rfl rfl ?_
    rintro r M' ⟨rfl, ⟨h3, rfl⟩ | ⟨h3, rfl⟩⟩
    · refine gV_in rfl (by unfold rng; omega) (by omega) ?_
      repeat (refine gV_s rfl (by first | exact trivial | omega) ?_)
      refine gV_cV (ok_passTick (d := d) (P := fun r M' => r = none ∧ M' = aTick (aTicks S k)) h1 (by omega) ⟨rfl, rfl⟩) mX5_passTick_ok sX6_X5_passTick rfl rfl rfl rfl rfl rfl ?_
      rintro r M' ⟨rfl, rfl⟩
      repeat (refine gV_s rfl (by first | exact trivial | omega) ?_)
      exact ih
    · refine gV_it rfl (by unfold rng; omega) rfl ?_
      repeat (refine gV_s rfl (by first | exact trivial | omega) ?_)
      refine gV_ret rfl trivial ?_
      have hi : idle (aTicks S k) := Classical.not_not.mp h3
      have := (idle_ticks h (n + 1) k hi (by push_cast; omega)).1
      have e2 : mw (aTicks S k) 5 0 (S 5 0 + x) = aTicks S x.toNat := by
        rw [show x.toNat = k + (n + 1) by omega, this]
        congr 1
        push_cast
        omega
      rw [e2]
      exact hP
theorem ok_cTick {d : Nat} {M : Mem} {x : Int} (h : NI M) (hx : rng x) (ht : M 5 0 ≤ 900000) : gOk mX6_tick (d + 6) [vR 0, vI x] M (does (oTick M x)) := by
  refine gOk_of mX6_tick_ok (by simp) (Nat.le_of_ble_eq_true rfl) ?_
  repeat (refine gV_s rfl (by first | exact trivial | omega) ?_)
  refine gV_cS (ok_isWithin (d := d + 5) (M := M) hx (by unfold rng; omega) (by unfold rng; omega)) mX6_isWithin_ok sX6_X6_isWithin rfl rfl rfl rfl ?_
  rintro r M' ⟨rfl, ⟨h1, rfl⟩ | ⟨h1, rfl⟩⟩
  · refine gV_in rfl (by unfold rng; omega) (by omega) ?_
    repeat (refine gV_s rfl (by first | exact trivial | omega) ?_)
    exact tick_loop h h1 (by omega) (doesP (by unfold oTick; rw [if_pos h1])) x.toNat 0 (by omega)
  · refine gV_it rfl (by unfold rng; omega) rfl ?_
    repeat (refine gV_s rfl (by first | exact trivial | omega) ?_)
    exact gV_ret rfl trivial (doesP (by unfold oTick; rw [if_neg h1]))
