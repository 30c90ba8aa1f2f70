/-! The class's planner. -/
theorem anyUp_loop {d : Nat} {M : Mem} {lo : Int → Int} {x : Int} (h : AI M lo x) : ∀ (n k : Nat), (k : Int) + n = M 1 0 → (∀ l : Int, 0 ≤ l → l < k → M 9 l ≠ 1) → gV mX3_isAnyUp d (yn (∃ l, 0 ≤ l ∧ l < M 1 0 ∧ M 9 l = 1) M) 7 [vR 1, vI k] [vI (M 1 0), vI k] M
  | 0, k, hk, hn => by
    have hL := h.1.1
    refine gV_it rfl (by unfold rng; omega) (by omega) ?_
    repeat (refine gV_s rfl (by first | exact trivial | omega) ?_)
    exact gV_ret rfl (Or.inl rfl) ⟨rfl, Or.inr ⟨fun ⟨l, a, b, c⟩ => hn l a (by omega) c, rfl⟩⟩
  | n + 1, k, hk, hn => by
    have hL := h.1.1
    have hu := h.2.1.2.1 k
    refine gV_in rfl (by unfold rng; omega) (by omega) ?_
    repeat (refine gV_s rfl (by first | exact trivial | omega) ?_)
    refine gV_i rfl (by unfold rng; omega) (fun h1 => ?_) (fun h1 => ?_)
    · repeat (refine gV_s rfl (by first | exact trivial | omega) ?_)
      refine anyUp_loop h n (k + 1) (by push_cast; omega) (fun l a b => ?_)
      by_cases e : l = k
      · subst e; omega
      · exact hn l a (by push_cast at b; omega)
    · repeat (refine gV_s rfl (by first | exact trivial | omega) ?_)
      exact gV_ret rfl (Or.inr rfl) ⟨rfl, Or.inl ⟨⟨k, by omega, by omega, by omega⟩, rfl⟩⟩
theorem ok_anyUp {d : Nat} {M : Mem} {lo : Int → Int} {x : Int} (h : AI M lo x) : gOk mX3_isAnyUp d [vR 1] M (yn (∃ l, 0 ≤ l ∧ l < M 1 0 ∧ M 9 l = 1) M) := by
  have hL := h.1.1
  refine gOk_of mX3_isAnyUp_ok (by simp) (Nat.le_of_ble_eq_true rfl) ?_
  repeat (refine gV_s rfl (by first | exact trivial | omega) ?_)
  exact anyUp_loop h (M 1 0).toNat 0 (by omega) (fun l a b => by omega)
theorem AI_pl {S T : Mem} {lo : Int → Int} {x : Int} (h : AI S lo x) (hr : ∀ r, r ≠ 6 → r < 43 → T r = S r) (h6 : T 6 0 = 0 ∨ T 6 0 = 1) : AI T lo x := by
  have eq : ∀ l' p, 0 ≤ l' → l' < 4 → qr T l' p = qr S l' p := fun l' p a b => by
    show T (11 + l'.toNat) p = _
    rw [hr _ (by omega) (by omega)]
  obtain ⟨ha, hl, hb, hn, hh, hf, ht, ks, kh, kf, kl, hq, hi, ho⟩ := h
  unfold AI Ja
  simp only [hr, ne_eq, not_false_eq_true, Nat.reduceEqDiff, Nat.reduceLT, Nat.reduceLeDiff, true_or, or_true, forall_const]
  exact ⟨⟨ha.1, ha.2.1, ha.2.2.1, ha.2.2.2.1, ha.2.2.2.2.1, ha.2.2.2.2.2.1, ha.2.2.2.2.2.2.1, h6⟩, hl, hb, hn, hh, hf, ht, ks, kh, kf, kl, Jq_rw hq eq, Ji_rw hi ha.1.2 eq, ho⟩
theorem load_cong {S T : Mem} (h3 : T 3 = S 3) (h19 : T 19 = S 19) (h24 : T 24 = S 24) (h25 : T 25 = S 25) (l : Int) : load T l = load S l := by
  unfold load ldL bkO
  rw [h3, h19, h24, h25]
theorem rates_cong {S T : Mem} (h3 : T 3 = S 3) (h24 : T 24 = S 24) (h25 : T 25 = S 25) (b : Int) : rates T b = rates S b := by
  unfold rates rtB bkO
  rw [h3, h24, h25]
def upSp (S : Mem) : Int → Int := fun l => if S 9 l = 1 then S 7 l else 0
def upLd (S : Mem) : Int → Int := fun l => if S 9 l = 1 then load S l else 0
def MsP (S M' : Mem) (k : Int) (n : Nat) : Prop := (∀ r, r ≠ 6 → M' r = S r) ∧ M' 6 8 = sm (upSp S) n ∧ M' 6 9 = sm (upLd S) n ∧ M' 6 10 = k ∧ (∀ i, i ≠ 8 → i ≠ 9 → i ≠ 10 → M' 6 i = S 6 i)
theorem meas_loop {d : Nat} {S : Mem} {lo : Int → Int} {x k : Int} {P : PV → Mem → Prop} (h : AI S lo x) (hP : ∀ M', MsP S M' k (S 1 0).toNat → P none M') : ∀ (n j : Nat) (M : Mem), (j : Int) + n = S 1 0 → MsP S M k j → gV mX4_measure (d + 2) P 25 [vR 6, vI k, vI j] [vI (S 1 0), vI j] M := by
  have hL := h.1.1
  intro n
  induction n with
  | zero =>
    intro j M hj hM
    have e : j = (S 1 0).toNat := by omega
    subst e
    refine gV_it rfl (by unfold rng; omega) (by omega) ?_
    exact gV_retv rfl trivial (hP M hM)
  | succ n ih =>
    intro j M hj hM
    obtain ⟨m1, m2, m3, m4, m5⟩ := hM
    have hu := h.2.1.2.1 j
    have e1 : M 1 0 = S 1 0 := by rw [m1 1 (by decide)]
    have e9 : M 9 j = S 9 j := by rw [m1 9 (by decide)]
    have e7 : M 7 j = S 7 j := by rw [m1 7 (by decide)]
    refine gV_in rfl (by unfold rng; omega) (by omega) ?_
    repeat (refine gV_s rfl (by first | exact trivial | omega) ?_)
    rw [e9]
    refine gV_i rfl (by unfold rng; omega) (fun h1 => ?_) (fun h1 => ?_)
    · repeat (refine gV_s rfl (by first | exact trivial | omega) ?_)
      rw [e1]
      refine ih (j + 1) M (by push_cast; omega) ⟨m1, ?_, ?_, m4, m5⟩
      · rw [sm_s, m2, show upSp S j = 0 by unfold upSp; rw [if_neg (by omega)], Int.add_zero]
      · rw [sm_s, m3, show upLd S j = 0 by unfold upLd; rw [if_neg (by omega)], Int.add_zero]
    · have hu1 : S 9 j = 1 := by omega
      repeat (refine gV_s rfl (by first | exact trivial | omega) ?_)
      have hA : AI (mw M 6 8 (M 6 8 + M 7 j)) lo x := AI_pl h (fun r a b => by rw [mw_rn _ _ _ a, m1 r a]) (by rw [mw_rs, up1_n _ _ (by decide), m5 0 (by decide) (by decide) (by decide)]; exact h.1.2.2.2.2.2.2.2)
      have eld : load (mw M 6 8 (M 6 8 + M 7 j)) j = load S j := load_cong (by rw [mw_rn _ _ _ (by decide), m1 3 (by decide)]) (by rw [mw_rn _ _ _ (by decide), m1 19 (by decide)]) (by rw [mw_rn _ _ _ (by decide), m1 24 (by decide)]) (by rw [mw_rn _ _ _ (by decide), m1 25 (by decide)]) _
      refine gV_cV (ok_loadOf (d := d) (M := mw M 6 8 (M 6 8 + M 7 j)) (l := j) (P := fun r M' => r = vI (load S j) ∧ M' = mw M 6 8 (M 6 8 + M 7 j)) hA (by unfold rng; omega) ⟨by rw [eld], rfl⟩) mX4_loadOf_ok sX4_X4_loadOf rfl rfl rfl rfl rfl rfl ?_
      rintro r M' ⟨rfl, rfl⟩
      repeat (refine gV_s rfl (by first | exact trivial | omega) ?_)
      have e1' : (mw (mw M 6 8 (M 6 8 + M 7 j)) 6 9 (mw M 6 8 (M 6 8 + M 7 j) 6 9 + load S j)) 1 0 = S 1 0 := by rw [mw_rn _ _ _ (by decide), mw_rn _ _ _ (by decide), e1]
      have key : MsP S (mw (mw M 6 8 (M 6 8 + M 7 j)) 6 9 (mw M 6 8 (M 6 8 + M 7 j) 6 9 + load S j)) k (j + 1) := by
        refine ⟨fun r hr => by rw [mw_rn _ _ _ hr, mw_rn _ _ _ hr, m1 r hr], ?_, ?_, ?_, fun i a b c => ?_⟩
        · rw [mw_rs, up1_n _ _ (by decide), mw_rs, up1_s, sm_s, m2, e7, show upSp S j = S 7 j by unfold upSp; rw [if_pos hu1]]
        · rw [mw_rs, up1_s, mw_rs, up1_n _ _ (by decide), sm_s, m3, show upLd S j = load S j by unfold upLd; rw [if_pos hu1]]
        · rw [mw_rs, up1_n _ _ (by decide), mw_rs, up1_n _ _ (by decide), m4]
        · rw [mw_rs, up1_n _ _ b, mw_rs, up1_n _ _ a, m5 i a b c]
      have := ih (j + 1) _ (by push_cast; omega) key
      rw [← e1'] at this
      exact this
theorem ok_measure {d : Nat} {S : Mem} {lo : Int → Int} {x k : Int} {P : PV → Mem → Prop} (h : AI S lo x) (hP : ∀ M', MsP S M' k (S 1 0).toNat → P none M') : gOk mX4_measure (d + 2) [vR 6, vI k] S P := by
  have hL := h.1.1
  refine gOk_of mX4_measure_ok (by simp) (Nat.le_of_ble_eq_true rfl) ?_
  repeat (refine gV_s rfl (by first | exact trivial | omega) ?_)
  have e1' : (mw (mw (mw S 6 10 k) 6 8 0) 6 9 0) 1 0 = S 1 0 := by rw [mw_rn _ _ _ (by decide), mw_rn _ _ _ (by decide), mw_rn _ _ _ (by decide)]
  have := meas_loop (d := d) h hP (S 1 0).toNat 0 (mw (mw (mw S 6 10 k) 6 8 0) 6 9 0) (by omega) ⟨fun r hr => by rw [mw_rn _ _ _ hr, mw_rn _ _ _ hr, mw_rn _ _ _ hr], by rw [mw_rs, up1_n _ _ (by decide), mw_rs, up1_s]; rfl, by rw [mw_rs, up1_s]; rfl, by rw [mw_rs, up1_n _ _ (by decide), mw_rs, up1_n _ _ (by decide), mw_rs, up1_s], fun i a b c => by rw [mw_rs, up1_n _ _ b, mw_rs, up1_n _ _ a, mw_rs, up1_n _ _ c]⟩
  rw [← e1'] at this
  exact this
theorem mul_bd {x y a b : Int} (x0 : 0 ≤ x) (x1 : x ≤ a) (y0 : 0 ≤ y) (y1 : y ≤ b) : 0 ≤ x * y ∧ x * y ≤ a * b := by
  refine ⟨Int.mul_nonneg x0 y0, ?_⟩
  exact Int.mul_le_mul x1 y1 y0 (by omega)
theorem ok_within {d : Nat} {M : Mem} {l x : Int} (l0 : 0 ≤ l) (l4 : l < 4) (hx : 0 ≤ x ∧ x ≤ 3200) (hA : 0 ≤ M 6 8 ∧ M 6 8 ≤ 32) (hW : 0 ≤ M 6 9 ∧ M 6 9 ≤ 1600) (hk : 0 ≤ M 6 10 ∧ M 6 10 ≤ 1000) (hs : 0 ≤ M 7 l ∧ M 7 l ≤ 8) : gOk mX4_isWithinShare d [vR 6, vI l, vI x] M (yn (wth (M 6 8) (M 6 9) (M 6 10) (M 7) l x) M) := by
  have b1 := mul_bd hx.1 hx.2 hA.1 hA.2
  have b2 := mul_bd (x := 100 + M 6 10) (a := 1100) (by omega) (by omega) hW.1 hW.2
  have b3 := mul_bd b2.1 b2.2 hs.1 hs.2
  refine gOk_of mX4_isWithinShare_ok (by simp) (Nat.le_of_ble_eq_true rfl) ?_
  repeat (refine gV_s rfl (by first | exact trivial | omega) ?_)
  refine gV_i rfl (by unfold rng; omega) (fun h1 => ?_) (fun h1 => ?_)
  · repeat (refine gV_s rfl (by first | exact trivial | omega) ?_)
    exact gV_ret rfl (Or.inl rfl) ⟨rfl, Or.inr ⟨by unfold wth; omega, rfl⟩⟩
  · repeat (refine gV_s rfl (by first | exact trivial | omega) ?_)
    exact gV_ret rfl (Or.inr rfl) ⟨rfl, Or.inl ⟨by unfold wth; omega, rfl⟩⟩
theorem ok_keep {d : Nat} {M : Mem} {m : Int} {P : PV → Mem → Prop} (hP : P none (mw (mcp (mw M 6 11 m) 46 43 8) 6 0 1)) : gOk mX4_keep (d + 1) [vR 6, vI m] M P := by
  refine gOk_of mX4_keep_ok (by simp) (Nat.le_of_ble_eq_true rfl) ?_
  repeat (refine gV_s rfl (by first | exact trivial | omega) ?_)
  refine gV_copy (n := 8) rfl rfl rfl rfl (by decide) ?_
  repeat (refine gV_s rfl (by first | exact trivial | omega) ?_)
  exact gV_retv rfl trivial hP
