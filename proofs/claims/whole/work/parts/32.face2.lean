/-! The class's face: moves, links, and what is told. -/
theorem ok_cMove {d : Nat} {M : Mem} {b l how : Int} (h : NI M) (hb : rng b) (hl : rng l) (hh : rng how) : gOk mX6_move (d + 6) [vR 0, vI b, vI l, vI how] M (does (oMove M b l how)) := by
  have hL := h.1.1
  have hno := h.1.2.2.2.2.1
  refine gOk_of mX6_move_ok (by simp) (Nat.le_of_ble_eq_true rfl) ?_
  repeat (refine gV_s rfl (by first | exact trivial | omega) ?_)
  refine gV_cS (ok_isBelow (d := d + 5) (M := M) hb (by unfold rng; omega)) mX6_isBelow_ok sX6_X6_isBelow rfl rfl rfl rfl ?_
  rintro r M' ⟨rfl, ⟨h1, rfl⟩ | ⟨h1, rfl⟩⟩
  · refine gV_in rfl (by unfold rng; omega) (by omega) ?_
    repeat (refine gV_s rfl (by first | exact trivial | omega) ?_)
    refine gV_cS (ok_isBelow (d := d + 5) (M := M') hl (by unfold rng; omega)) mX6_isBelow_ok sX6_X6_isBelow rfl rfl rfl rfl ?_
    rintro r M'' ⟨rfl, ⟨h2, rfl⟩ | ⟨h2, rfl⟩⟩
    · refine gV_in rfl (by unfold rng; omega) (by omega) ?_
      repeat (refine gV_s rfl (by first | exact trivial | omega) ?_)
      refine gV_cS (ok_isWithin (d := d + 5) (M := M'') hh (by unfold rng; omega) (by unfold rng; omega)) mX6_isWithin_ok sX6_X6_isWithin rfl rfl rfl rfl ?_
      rintro r M' ⟨rfl, ⟨h3, rfl⟩ | ⟨h3, rfl⟩⟩
      · refine gV_in rfl (by unfold rng; omega) (by omega) ?_
        have hbk := AI_bk h b
        have hup := h.2.1.2.1 l
        have e0 : oMove M' b l how = (if M' 19 b = -6 ∨ M' 20 b ≠ -6 ∨ M' 21 b ≠ 0 then (-3, M') else (if M' 9 l = 0 ∨ M' 19 b = l ∨ (how = 2 ∧ M' 5 1 = 0) then (-5, M') else (if aMove M' b l how 20 b = -6 then 1 else 0, aMove M' b l how))) := by unfold oMove; rw [if_pos ⟨h1, h2⟩, if_pos h3]
        rw [e0]
        repeat (refine gV_s rfl (by first | exact trivial | omega) ?_)
        refine gV_i rfl (by unfold rng; omega) (fun h4 => ?_) (fun h4 => ?_)
        · repeat (refine gV_s rfl (by first | exact trivial | omega) ?_)
          exact gV_ret rfl trivial (doesP (by rw [if_pos (Or.inl h4)]))
        · repeat (refine gV_s rfl (by first | exact trivial | omega) ?_)
          refine gV_cV (ok_isUnsettled (d := d + 5) (M := M') (b := b) h1.1 h1.2 (by unfold rng; omega) (by unfold rng; omega)) mX0_isUnsettled_ok sX6_X0_isUnsettled rfl rfl rfl rfl rfl rfl ?_
          rintro r M'' ⟨rfl, ⟨h5, rfl⟩ | ⟨h5, rfl⟩⟩
          · refine gV_in rfl (by unfold rng; omega) (by omega) ?_
            repeat (refine gV_s rfl (by first | exact trivial | omega) ?_)
            exact gV_ret rfl trivial (doesP (by rw [if_pos (Or.inr h5)]))
          · refine gV_it rfl (by unfold rng; omega) rfl ?_
            rw [if_neg (by omega)]
            repeat (refine gV_s rfl (by first | exact trivial | omega) ?_)
            refine gV_i rfl (by unfold rng; omega) (fun h6 => ?_) (fun h6 => ?_)
            · repeat (refine gV_s rfl (by first | exact trivial | omega) ?_)
              exact gV_ret rfl trivial (doesP (by rw [if_pos (Or.inl h6)]))
            · have hu : M'' 9 l = 1 := by omega
              repeat (refine gV_s rfl (by first | exact trivial | omega) ?_)
              refine gV_i rfl (by unfold rng; omega) (fun h7 => ?_) (fun h7 => ?_)
              · repeat (refine gV_s rfl (by first | exact trivial | omega) ?_)
                exact gV_ret rfl trivial (doesP (by rw [if_pos (Or.inr (Or.inl h7))]))
              · have fin : ¬ (how = 2 ∧ M'' 5 1 = 0) → gV mX6_move (d + 6) (does (if M'' 9 l = 0 ∨ M'' 19 b = l ∨ how = 2 ∧ M'' 5 1 = 0 then (-5, M'') else (if aMove M'' b l how 20 b = -6 then 1 else 0, aMove M'' b l how))) 111 [vR 0, vI b, vI l, vI how] [] M'' := by
                  intro h8
                  rw [if_neg (by omega)]
                  repeat (refine gV_s rfl (by first | exact trivial | omega) ?_)
                  refine gV_cV (ok_startMove (d := d) h h1.1 h1.2 hu h4 h7 (by omega) h3) mX5_startMove_ok sX6_X5_startMove rfl rfl rfl rfl rfl rfl ?_
                  rintro r M' ⟨rfl, ⟨h9, rfl⟩ | ⟨h9, rfl⟩⟩
                  · refine gV_cS (ok_oneIf (d := d + 5) (P := does (if aMove M'' b l how 20 b = -6 then 1 else 0, aMove M'' b l how)) (Or.inr rfl) (doesP (by rw [if_pos h9]))) mX6_oneIf_ok sX6_X6_oneIf rfl rfl rfl rfl ?_
                    rintro r M' ⟨rfl, rfl⟩
                    exact gV_ret rfl trivial ⟨rfl, rfl⟩
                  · refine gV_cS (ok_oneIf (d := d + 5) (P := does (if aMove M'' b l how 20 b = -6 then 1 else 0, aMove M'' b l how)) (Or.inl rfl) (doesP (by rw [if_neg h9]))) mX6_oneIf_ok sX6_X6_oneIf rfl rfl rfl rfl ?_
                    rintro r M' ⟨rfl, rfl⟩
                    exact gV_ret rfl trivial ⟨rfl, rfl⟩
                repeat (refine gV_s rfl (by first | exact trivial | omega) ?_)
                refine gV_i rfl (by unfold rng; omega) (fun h8 => ?_) (fun h8 => ?_)
                · repeat (refine gV_s rfl (by first | exact trivial | omega) ?_)
                  refine gV_i rfl (by unfold rng; omega) (fun h9 => ?_) (fun h9 => ?_)
                  · repeat (refine gV_s rfl (by first | exact trivial | omega) ?_)
                    exact gV_ret rfl trivial (doesP (by rw [if_pos (Or.inr (Or.inr ⟨h8, h9⟩))]))
                  · exact fin (by omega)
                · exact fin (by omega)
      · refine gV_it rfl (by unfold rng; omega) rfl ?_
        repeat (refine gV_s rfl (by first | exact trivial | omega) ?_)
        exact gV_ret rfl trivial (doesP (by unfold oMove; rw [if_pos ⟨h1, h2⟩, if_neg h3]))
    · refine gV_it rfl (by unfold rng; omega) rfl ?_
      repeat (refine gV_s rfl (by first | exact trivial | omega) ?_)
      exact gV_ret rfl trivial (doesP (by unfold oMove; rw [if_neg (fun q => h2 q.2)]))
  · refine gV_it rfl (by unfold rng; omega) rfl ?_
    repeat (refine gV_s rfl (by first | exact trivial | omega) ?_)
    exact gV_ret rfl trivial (doesP (by unfold oMove; rw [if_neg (fun q => h1 q.1)]))
theorem ok_cDrop {d : Nat} {M : Mem} {b : Int} (h : NI M) (hb : rng b) : gOk mX6_drop (d + 4) [vR 0, vI b] M (does (oDrop M b)) := by
  refine gOk_of mX6_drop_ok (by simp) (Nat.le_of_ble_eq_true rfl) ?_
  repeat (refine gV_s rfl (by first | exact trivial | omega) ?_)
  refine gV_cS (ok_isBelow (d := d + 3) (M := M) hb (by unfold rng; omega)) mX6_isBelow_ok sX6_X6_isBelow rfl rfl rfl rfl ?_
  rintro r M' ⟨rfl, ⟨h1, rfl⟩ | ⟨h1, rfl⟩⟩
  · refine gV_in rfl (by unfold rng; omega) (by omega) ?_
    have hbk := AI_bk h b
    have hJ := h.2.2.1 b
    repeat (refine gV_s rfl (by first | exact trivial | omega) ?_)
    refine gV_i rfl (by unfold rng; omega) (fun h2 => ?_) (fun h2 => ?_)
    · repeat (refine gV_s rfl (by first | exact trivial | omega) ?_)
      exact gV_ret rfl trivial (doesP (by unfold oDrop; rw [if_pos h1, if_pos h2]))
    · have hu : M' 19 b = -6 ∨ M' 9 (M' 19 b) = 1 := by
        rcases hJ.1 with q | ⟨q1, q2, q3 | q3⟩
        · exact Or.inl q
        · exact Or.inr q3
        · omega
      repeat (refine gV_s rfl (by first | exact trivial | omega) ?_)
      refine gV_cV (ok_cancel (d := d) (P := does (oDrop M' b)) h h1.1 h1.2 hu (doesP (by unfold oDrop; rw [if_pos h1, if_neg h2]))) mX5_cancelMove_ok sX6_X5_cancelMove rfl rfl rfl rfl rfl rfl ?_
      rintro r M'' ⟨rfl, rfl⟩
      exact gV_ret rfl trivial ⟨rfl, rfl⟩
  · refine gV_it rfl (by unfold rng; omega) rfl ?_
    repeat (refine gV_s rfl (by first | exact trivial | omega) ?_)
    exact gV_ret rfl trivial (doesP (by unfold oDrop; rw [if_neg h1]))
theorem ok_cFail {d : Nat} {M : Mem} {l : Int} (h : NI M) (hl : rng l) : gOk mX6_fail (d + 6) [vR 0, vI l] M (does (oFail M l)) := by
  have hL := h.1.1
  refine gOk_of mX6_fail_ok (by simp) (Nat.le_of_ble_eq_true rfl) ?_
  repeat (refine gV_s rfl (by first | exact trivial | omega) ?_)
  refine gV_cS (ok_isBelow (d := d + 5) (M := M) hl (by unfold rng; omega)) mX6_isBelow_ok sX6_X6_isBelow rfl rfl rfl rfl ?_
  rintro r M' ⟨rfl, ⟨h1, rfl⟩ | ⟨h1, rfl⟩⟩
  · refine gV_in rfl (by unfold rng; omega) (by omega) ?_
    have hup := h.2.1.2.1 l
    repeat (refine gV_s rfl (by first | exact trivial | omega) ?_)
    refine gV_i rfl (by unfold rng; omega) (fun h2 => ?_) (fun h2 => ?_)
    · repeat (refine gV_s rfl (by first | exact trivial | omega) ?_)
      exact gV_ret rfl trivial (doesP (by unfold oFail; rw [if_pos h1, if_pos h2]))
    · repeat (refine gV_s rfl (by first | exact trivial | omega) ?_)
      refine gV_cV (ok_break (d := d) (P := does (oFail M' l)) h (by omega) (doesP (by unfold oFail; rw [if_pos h1, if_neg h2]))) mX5_breakLink_ok sX6_X5_breakLink rfl rfl rfl rfl rfl rfl ?_
      rintro r M'' ⟨rfl, rfl⟩
      exact gV_ret rfl trivial ⟨rfl, rfl⟩
  · refine gV_it rfl (by unfold rng; omega) rfl ?_
    repeat (refine gV_s rfl (by first | exact trivial | omega) ?_)
    exact gV_ret rfl trivial (doesP (by unfold oFail; rw [if_neg h1]))
theorem ok_cBack {d : Nat} {M : Mem} {l : Int} (h : NI M) (hl : rng l) : gOk mX6_back (d + 4) [vR 0, vI l] M (does (oBack M l)) := by
  have hL := h.1.1
  refine gOk_of mX6_back_ok (by simp) (Nat.le_of_ble_eq_true rfl) ?_
  repeat (refine gV_s rfl (by first | exact trivial | omega) ?_)
  refine gV_cS (ok_isBelow (d := d + 3) (M := M) hl (by unfold rng; omega)) mX6_isBelow_ok sX6_X6_isBelow rfl rfl rfl rfl ?_
  rintro r M' ⟨rfl, ⟨h1, rfl⟩ | ⟨h1, rfl⟩⟩
  · refine gV_in rfl (by unfold rng; omega) (by omega) ?_
    have hup := h.2.1.2.1 l
    repeat (refine gV_s rfl (by first | exact trivial | omega) ?_)
    refine gV_i rfl (by unfold rng; omega) (fun h2 => ?_) (fun h2 => ?_)
    · repeat (refine gV_s rfl (by first | exact trivial | omega) ?_)
      refine gV_cV (ok_takeIn (d := d) (P := does (oBack M' l)) (AI_up1 h h1.1 h1.2) (by rw [mw_rs, up1_s]) (doesP (by unfold oBack; rw [if_pos h1, if_pos h2, mw_rn _ _ _ (by decide)]; rfl))) mX5_takeIn_ok sX6_X5_takeIn rfl rfl rfl rfl rfl rfl ?_
      rintro r M'' ⟨rfl, rfl⟩
      exact gV_ret rfl trivial ⟨rfl, rfl⟩
    · repeat (refine gV_s rfl (by first | exact trivial | omega) ?_)
      exact gV_ret rfl trivial (doesP (by unfold oBack; rw [if_pos h1, if_neg h2]))
  · refine gV_it rfl (by unfold rng; omega) rfl ?_
    repeat (refine gV_s rfl (by first | exact trivial | omega) ?_)
    exact gV_ret rfl trivial (doesP (by unfold oBack; rw [if_neg h1]))
def rLetter (S : Mem) (i w : Int) : Int := if 0 ≤ i ∧ i < S 4 0 then (if w = 0 then S 31 i else if w = 1 then S 32 i else if w = 2 then S 33 i else if w = 3 then S 34 i else if w = 4 then S 35 i else if w = 5 then S 36 i else if w = 6 then S 37 i else if w = 7 then S 38 i else if w = 8 then S 39 i else -2) else -1
theorem ok_cLetter {d : Nat} {M : Mem} {i w : Int} (h : NI M) (hi : rng i) (hw : rng w) : gOk mX6_letter (d + 1) [vR 0, vI i, vI w] M (does (rLetter M i w, M)) := by
  have hn := h.1.2.2.1
  refine gOk_of mX6_letter_ok (by simp) (Nat.le_of_ble_eq_true rfl) ?_
  repeat (refine gV_s rfl (by first | exact trivial | omega) ?_)
  refine gV_cS (ok_isBelow (d := d) (M := M) hi (by unfold rng; omega)) mX6_isBelow_ok sX6_X6_isBelow rfl rfl rfl rfl ?_
  rintro r M' ⟨rfl, ⟨h1, rfl⟩ | ⟨h1, rfl⟩⟩
  · refine gV_in rfl (by unfold rng; omega) (by omega) ?_
    have e : rLetter M' i w = (if w = 0 then M' 31 i else if w = 1 then M' 32 i else if w = 2 then M' 33 i else if w = 3 then M' 34 i else if w = 4 then M' 35 i else if w = 5 then M' 36 i else if w = 6 then M' 37 i else if w = 7 then M' 38 i else if w = 8 then M' 39 i else -2) := by unfold rLetter; rw [if_pos h1]
    rw [e]
    by_cases hc : 0 ≤ w ∧ w ≤ 8
    · have hcs : w = 0 ∨ w = 1 ∨ w = 2 ∨ w = 3 ∨ w = 4 ∨ w = 5 ∨ w = 6 ∨ w = 7 ∨ w = 8 := by omega
      rcases hcs with rfl | rfl | rfl | rfl | rfl | rfl | rfl | rfl | rfl
      · repeat (refine gV_s rfl (by first | exact trivial | omega) ?_)
        refine gV_swIn 68 rfl (by unfold rng; omega) (by decide) (by decide) rfl (by decide) ?_
        repeat (refine gV_s rfl (by first | exact trivial | omega) ?_)
        exact gV_ret rfl trivial (doesP rfl)
      · repeat (refine gV_s rfl (by first | exact trivial | omega) ?_)
        refine gV_swIn 78 rfl (by unfold rng; omega) (by decide) (by decide) rfl (by decide) ?_
        repeat (refine gV_s rfl (by first | exact trivial | omega) ?_)
        exact gV_ret rfl trivial (doesP rfl)
      · repeat (refine gV_s rfl (by first | exact trivial | omega) ?_)
        refine gV_swIn 88 rfl (by unfold rng; omega) (by decide) (by decide) rfl (by decide) ?_
        repeat (refine gV_s rfl (by first | exact trivial | omega) ?_)
        exact gV_ret rfl trivial (doesP rfl)
      · repeat (refine gV_s rfl (by first | exact trivial | omega) ?_)
        refine gV_swIn 98 rfl (by unfold rng; omega) (by decide) (by decide) rfl (by decide) ?_
        repeat (refine gV_s rfl (by first | exact trivial | omega) ?_)
        exact gV_ret rfl trivial (doesP rfl)
      · repeat (refine gV_s rfl (by first | exact trivial | omega) ?_)
        refine gV_swIn 108 rfl (by unfold rng; omega) (by decide) (by decide) rfl (by decide) ?_
        repeat (refine gV_s rfl (by first | exact trivial | omega) ?_)
        exact gV_ret rfl trivial (doesP rfl)
      · repeat (refine gV_s rfl (by first | exact trivial | omega) ?_)
        refine gV_swIn 118 rfl (by unfold rng; omega) (by decide) (by decide) rfl (by decide) ?_
        repeat (refine gV_s rfl (by first | exact trivial | omega) ?_)
        exact gV_ret rfl trivial (doesP rfl)
      · repeat (refine gV_s rfl (by first | exact trivial | omega) ?_)
        refine gV_swIn 128 rfl (by unfold rng; omega) (by decide) (by decide) rfl (by decide) ?_
        repeat (refine gV_s rfl (by first | exact trivial | omega) ?_)
        exact gV_ret rfl trivial (doesP rfl)
      · repeat (refine gV_s rfl (by first | exact trivial | omega) ?_)
        refine gV_swIn 138 rfl (by unfold rng; omega) (by decide) (by decide) rfl (by decide) ?_
        repeat (refine gV_s rfl (by first | exact trivial | omega) ?_)
        exact gV_ret rfl trivial (doesP rfl)
      · repeat (refine gV_s rfl (by first | exact trivial | omega) ?_)
        refine gV_swIn 148 rfl (by unfold rng; omega) (by decide) (by decide) rfl (by decide) ?_
        repeat (refine gV_s rfl (by first | exact trivial | omega) ?_)
        exact gV_ret rfl trivial (doesP rfl)
    · repeat (refine gV_s rfl (by first | exact trivial | omega) ?_)
      refine gV_swOut 158 rfl hw (by omega) (by decide) ?_
      repeat (refine gV_s rfl (by first | exact trivial | omega) ?_)
      refine gV_ret rfl trivial (doesP ?_)
      simp only [show ¬ w = 0 by omega, show ¬ w = 1 by omega, show ¬ w = 2 by omega, show ¬ w = 3 by omega, show ¬ w = 4 by omega, show ¬ w = 5 by omega, show ¬ w = 6 by omega, show ¬ w = 7 by omega, show ¬ w = 8 by omega, if_false]
  · refine gV_it rfl (by unfold rng; omega) rfl ?_
    repeat (refine gV_s rfl (by first | exact trivial | omega) ?_)
    exact gV_ret rfl trivial (doesP (by unfold rLetter; rw [if_neg h1]))
/-! sums over flows -/
def sm (g : Int → Int) : Nat → Int
  | 0 => 0
  | k + 1 => sm g k + g k
theorem sm_s (g : Int → Int) (k : Nat) : sm g (k + 1) = sm g k + g k := rfl
theorem sm_bd {g : Int → Int} {c : Int} : ∀ {n : Nat}, (∀ i : Int, 0 ≤ i → i < n → 0 ≤ g i ∧ g i ≤ c) → 0 ≤ sm g n ∧ sm g n ≤ n * c
  | 0, _ => by simp [sm]
  | n + 1, h => by
    have h1 := sm_bd (n := n) (fun i a b => h i a (by omega))
    have h2 := h n (by omega) (by omega)
    rw [sm_s]
    have e : ((n + 1 : Nat) : Int) * c = n * c + c := by push_cast; rw [Int.add_mul, Int.one_mul]
    rw [e]
    omega
/-- rates of the flows in a bucket; load of a link -/
def rtB (S : Mem) (b : Int) : Int → Int := fun f => if bkO S f = b then S 24 f else 0
def ldL (S : Mem) (l : Int) : Int → Int := fun f => if S 19 (bkO S f) = l then S 24 f else 0
def rates (S : Mem) (b : Int) : Int := sm (rtB S b) (S 3 0).toNat
def load (S : Mem) (l : Int) : Int := sm (ldL S l) (S 3 0).toNat
theorem rate_loop {d : Nat} {M : Mem} {lo : Int → Int} {x b : Int} {P : PV → Mem → Prop} (h : AI M lo x) (hb : rng b) (hP : P (vI (rates M b)) M) : ∀ (n k : Nat), (k : Int) + n = M 3 0 → gV mX1_rateOfBucket (d + 1) P 9 [vR 3, vI b, vI (sm (rtB M b) k), vI k] [vI (M 3 0), vI k] M
  | 0, k, hk => by
    have hF := h.1.2.1
    have e : k = (M 3 0).toNat := by omega
    refine gV_it rfl (by unfold rng; omega) (by omega) ?_
    repeat (refine gV_s rfl (by first | exact trivial | omega) ?_)
    unfold rates at hP
    rw [← e] at hP
    exact gV_ret rfl trivial hP
  | n + 1, k, hk => by
    have hF := h.1.2.1
    have ha := h.1.2.2.2.2.2
    have hff := h.2.2.2.2.2.1 k
    have hbk := bkO_in h (f := k) (by omega) (by omega)
    have ih := rate_loop (d := d) h hb hP n (k + 1) (by push_cast; omega)
    rw [sm_s] at ih
    refine gV_in rfl (by unfold rng; omega) (by omega) ?_
    repeat (refine gV_s rfl (by first | exact trivial | omega) ?_)
    refine gV_cV (ok_bucketOf (d := d) (P := fun r M' => r = vI (bkO M k) ∧ M' = M) (f := k) (by omega) (by omega) ha.1 ha.2.1 (by unfold rng; omega) ⟨rfl, rfl⟩) mX1_bucketOf_ok sX1_X1_bucketOf rfl rfl rfl rfl rfl rfl ?_
    rintro r M' ⟨rfl, rfl⟩
    unfold rng at hb
    repeat (refine gV_s rfl (by first | exact trivial | omega) ?_)
    refine gV_i rfl (by unfold rng; omega) (fun h2 => ?_) (fun h2 => ?_)
    · rw [show rtB M' b k = M' 24 k by unfold rtB; rw [if_pos h2]] at ih
      repeat (refine gV_s rfl (by first | exact trivial | omega) ?_)
      exact ih
    · rw [show rtB M' b k = 0 by unfold rtB; rw [if_neg h2], Int.add_zero] at ih
      repeat (refine gV_s rfl (by first | exact trivial | omega) ?_)
      exact ih
theorem ok_rateOfBucket {d : Nat} {M : Mem} {lo : Int → Int} {x b : Int} {P : PV → Mem → Prop} (h : AI M lo x) (hb : rng b) (hP : P (vI (rates M b)) M) : gOk mX1_rateOfBucket (d + 1) [vR 3, vI b] M P := by
  have hF := h.1.2.1
  refine gOk_of mX1_rateOfBucket_ok (by simp) (Nat.le_of_ble_eq_true rfl) ?_
  repeat (refine gV_s rfl (by first | exact trivial | omega) ?_)
  exact rate_loop h hb hP (M 3 0).toNat 0 (by omega)
theorem load_loop {d : Nat} {M : Mem} {lo : Int → Int} {x l : Int} {P : PV → Mem → Prop} (h : AI M lo x) (hl : rng l) (hP : P (vI (load M l)) M) : ∀ (n k : Nat), (k : Int) + n = M 3 0 → gV mX4_loadOf (d + 1) P 12 [vR 6, vI l, vI (sm (ldL M l) k), vI k] [vI (M 3 0), vI k] M
  | 0, k, hk => by
    have hF := h.1.2.1
    have e : k = (M 3 0).toNat := by omega
    refine gV_it rfl (by unfold rng; omega) (by omega) ?_
    repeat (refine gV_s rfl (by first | exact trivial | omega) ?_)
    unfold load at hP
    rw [← e] at hP
    exact gV_ret rfl trivial hP
  | n + 1, k, hk => by
    have hF := h.1.2.1
    have ha := h.1.2.2.2.2.2
    have hff := h.2.2.2.2.2.1 k
    have hbk := bkO_in h (f := k) (by omega) (by omega)
    have hon := AI_bk h (bkO M k)
    have ih := load_loop (d := d) h hl hP n (k + 1) (by push_cast; omega)
    rw [sm_s] at ih
    refine gV_in rfl (by unfold rng; omega) (by omega) ?_
    repeat (refine gV_s rfl (by first | exact trivial | omega) ?_)
    refine gV_cV (ok_bucketOf (d := d) (P := fun r M' => r = vI (bkO M k) ∧ M' = M) (f := k) (by omega) (by omega) ha.1 ha.2.1 (by unfold rng; omega) ⟨rfl, rfl⟩) mX1_bucketOf_ok sX4_X1_bucketOf rfl rfl rfl rfl rfl rfl ?_
    rintro r M' ⟨rfl, rfl⟩
    unfold rng at hl
    repeat (refine gV_s rfl (by first | exact trivial | omega) ?_)
    refine gV_i rfl (by unfold rng; omega) (fun h2 => ?_) (fun h2 => ?_)
    · rw [show ldL M' l k = M' 24 k by unfold ldL; rw [if_pos h2]] at ih
      repeat (refine gV_s rfl (by first | exact trivial | omega) ?_)
      exact ih
    · rw [show ldL M' l k = 0 by unfold ldL; rw [if_neg h2], Int.add_zero] at ih
      repeat (refine gV_s rfl (by first | exact trivial | omega) ?_)
      exact ih
theorem ok_loadOf {d : Nat} {M : Mem} {lo : Int → Int} {x l : Int} {P : PV → Mem → Prop} (h : AI M lo x) (hl : rng l) (hP : P (vI (load M l)) M) : gOk mX4_loadOf (d + 1) [vR 6, vI l] M P := by
  have hF := h.1.2.1
  refine gOk_of mX4_loadOf_ok (by simp) (Nat.le_of_ble_eq_true rfl) ?_
  repeat (refine gV_s rfl (by first | exact trivial | omega) ?_)
  exact load_loop h hl hP (M 3 0).toNat 0 (by omega)
def rAbout (S : Mem) (l w : Int) : Int := if 0 ≤ l ∧ l < S 1 0 then (if w = 0 then S 7 l else if w = 1 then S 8 l else if w = 2 then S 9 l else if w = 3 then S 17 l - S 16 l else if w = 4 then S 16 l - S 15 l else if w = 5 then ct (is_ (S 19) l) 8 else if w = 6 then load S l else if w = 7 then S 18 l else -2) else -1
theorem ok_cAbout {d : Nat} {M : Mem} {l w : Int} (h : NI M) (hl : rng l) (hw : rng w) : gOk mX6_about (d + 2) [vR 0, vI l, vI w] M (does (rAbout M l w, M)) := by
  have hL := h.1.1
  refine gOk_of mX6_about_ok (by simp) (Nat.le_of_ble_eq_true rfl) ?_
  repeat (refine gV_s rfl (by first | exact trivial | omega) ?_)
  refine gV_cS (ok_isBelow (d := d + 1) (M := M) hl (by unfold rng; omega)) mX6_isBelow_ok sX6_X6_isBelow rfl rfl rfl rfl ?_
  rintro r M' ⟨rfl, ⟨h1, rfl⟩ | ⟨h1, rfl⟩⟩
  · refine gV_in rfl (by unfold rng; omega) (by omega) ?_
    have hup := h.2.1.2.1 l
    have e : rAbout M' l w = (if w = 0 then M' 7 l else if w = 1 then M' 8 l else if w = 2 then M' 9 l else if w = 3 then M' 17 l - M' 16 l else if w = 4 then M' 16 l - M' 15 l else if w = 5 then ct (is_ (M' 19) l) 8 else if w = 6 then load M' l else if w = 7 then M' 18 l else -2) := by unfold rAbout; rw [if_pos h1]
    rw [e]
    by_cases hc : 0 ≤ w ∧ w ≤ 7
    · have hcs : w = 0 ∨ w = 1 ∨ w = 2 ∨ w = 3 ∨ w = 4 ∨ w = 5 ∨ w = 6 ∨ w = 7 := by omega
      rcases hcs with rfl | rfl | rfl | rfl | rfl | rfl | rfl | rfl
      · repeat (refine gV_s rfl (by first | exact trivial | omega) ?_)
        refine gV_swIn 64 rfl (by unfold rng; omega) (by decide) (by decide) rfl (by decide) ?_
        repeat (refine gV_s rfl (by first | exact trivial | omega) ?_)
        exact gV_ret rfl trivial (doesP rfl)
      · repeat (refine gV_s rfl (by first | exact trivial | omega) ?_)
        refine gV_swIn 74 rfl (by unfold rng; omega) (by decide) (by decide) rfl (by decide) ?_
        repeat (refine gV_s rfl (by first | exact trivial | omega) ?_)
        exact gV_ret rfl trivial (doesP rfl)
      · repeat (refine gV_s rfl (by first | exact trivial | omega) ?_)
        refine gV_swIn 84 rfl (by unfold rng; omega) (by decide) (by decide) rfl (by decide) ?_
        repeat (refine gV_s rfl (by first | exact trivial | omega) ?_)
        refine gV_cS (ok_oneIf (d := d + 1) (P := fun r M'' => r = vI (M' 9 l) ∧ M'' = M') (by omega) ⟨rfl, rfl⟩) mX6_oneIf_ok sX6_X6_oneIf rfl rfl rfl rfl ?_
        rintro r M'' ⟨rfl, rfl⟩
        exact gV_ret rfl trivial (doesP rfl)
      · repeat (refine gV_s rfl (by first | exact trivial | omega) ?_)
        refine gV_swIn 97 rfl (by unfold rng; omega) (by decide) (by decide) rfl (by decide) ?_
        repeat (refine gV_s rfl (by first | exact trivial | omega) ?_)
        exact gV_ret rfl trivial (doesP rfl)
      · repeat (refine gV_s rfl (by first | exact trivial | omega) ?_)
        refine gV_swIn 117 rfl (by unfold rng; omega) (by decide) (by decide) rfl (by decide) ?_
        repeat (refine gV_s rfl (by first | exact trivial | omega) ?_)
        exact gV_ret rfl trivial (doesP rfl)
      · repeat (refine gV_s rfl (by first | exact trivial | omega) ?_)
        refine gV_swIn 137 rfl (by unfold rng; omega) (by decide) (by decide) rfl (by decide) ?_
        repeat (refine gV_s rfl (by first | exact trivial | omega) ?_)
        refine gV_cV (ok_howMany (d := d + 1) (P := fun r M'' => r = vI (ct (is_ (M' 19) l) 8) ∧ M'' = M') hl (fun b => by have := AI_bk h b; unfold rng; omega) ⟨rfl, rfl⟩) mX0_howManyOn_ok sX6_X0_howManyOn rfl rfl rfl rfl rfl rfl ?_
        rintro r M'' ⟨rfl, rfl⟩
        exact gV_ret rfl trivial (doesP rfl)
      · repeat (refine gV_s rfl (by first | exact trivial | omega) ?_)
        refine gV_swIn 146 rfl (by unfold rng; omega) (by decide) (by decide) rfl (by decide) ?_
        repeat (refine gV_s rfl (by first | exact trivial | omega) ?_)
        refine gV_cV (ok_loadOf (d := d) (P := fun r M'' => r = vI (load M' l) ∧ M'' = M') h hl ⟨rfl, rfl⟩) mX4_loadOf_ok sX6_X4_loadOf rfl rfl rfl rfl rfl rfl ?_
        rintro r M'' ⟨rfl, rfl⟩
        exact gV_ret rfl trivial (doesP rfl)
      · repeat (refine gV_s rfl (by first | exact trivial | omega) ?_)
        refine gV_swIn 155 rfl (by unfold rng; omega) (by decide) (by decide) rfl (by decide) ?_
        repeat (refine gV_s rfl (by first | exact trivial | omega) ?_)
        exact gV_ret rfl trivial (doesP rfl)
    · repeat (refine gV_s rfl (by first | exact trivial | omega) ?_)
      refine gV_swOut 165 rfl hw (by omega) (by decide) ?_
      repeat (refine gV_s rfl (by first | exact trivial | omega) ?_)
      refine gV_ret rfl trivial (doesP ?_)
      simp only [show ¬ w = 0 by omega, show ¬ w = 1 by omega, show ¬ w = 2 by omega, show ¬ w = 3 by omega, show ¬ w = 4 by omega, show ¬ w = 5 by omega, show ¬ w = 6 by omega, show ¬ w = 7 by omega, if_false]
  · refine gV_it rfl (by unfold rng; omega) rfl ?_
    repeat (refine gV_s rfl (by first | exact trivial | omega) ?_)
    exact gV_ret rfl trivial (doesP (by unfold rAbout; rw [if_neg h1]))
def rBucket (S : Mem) (b w : Int) : Int := if 0 ≤ b ∧ b < 8 then (if w = 0 then S 19 b else if w = 1 then S 20 b else if w = 2 then S 21 b else if w = 3 then S 22 b else if w = 4 then rates S b else if w = 5 then S 23 b else -2) else -1
theorem ok_cBucket {d : Nat} {M : Mem} {b w : Int} (h : NI M) (hb : rng b) (hw : rng w) : gOk mX6_bucket (d + 2) [vR 0, vI b, vI w] M (does (rBucket M b w, M)) := by
  refine gOk_of mX6_bucket_ok (by simp) (Nat.le_of_ble_eq_true rfl) ?_
  repeat (refine gV_s rfl (by first | exact trivial | omega) ?_)
  refine gV_cS (ok_isBelow (d := d + 1) (M := M) hb (by unfold rng; omega)) mX6_isBelow_ok sX6_X6_isBelow rfl rfl rfl rfl ?_
  rintro r M' ⟨rfl, ⟨h1, rfl⟩ | ⟨h1, rfl⟩⟩
  · refine gV_in rfl (by unfold rng; omega) (by omega) ?_
    have hbk := h.2.2.1 b
    have e : rBucket M' b w = (if w = 0 then M' 19 b else if w = 1 then M' 20 b else if w = 2 then M' 21 b else if w = 3 then M' 22 b else if w = 4 then rates M' b else if w = 5 then M' 23 b else -2) := by unfold rBucket; rw [if_pos h1]
    rw [e]
    by_cases hc : 0 ≤ w ∧ w ≤ 5
    · have hcs : w = 0 ∨ w = 1 ∨ w = 2 ∨ w = 3 ∨ w = 4 ∨ w = 5 := by omega
      rcases hcs with rfl | rfl | rfl | rfl | rfl | rfl
      · repeat (refine gV_s rfl (by first | exact trivial | omega) ?_)
        refine gV_swIn 52 rfl (by unfold rng; omega) (by decide) (by decide) rfl (by decide) ?_
        repeat (refine gV_s rfl (by first | exact trivial | omega) ?_)
        exact gV_ret rfl trivial (doesP rfl)
      · repeat (refine gV_s rfl (by first | exact trivial | omega) ?_)
        refine gV_swIn 62 rfl (by unfold rng; omega) (by decide) (by decide) rfl (by decide) ?_
        repeat (refine gV_s rfl (by first | exact trivial | omega) ?_)
        exact gV_ret rfl trivial (doesP rfl)
      · repeat (refine gV_s rfl (by first | exact trivial | omega) ?_)
        refine gV_swIn 72 rfl (by unfold rng; omega) (by decide) (by decide) rfl (by decide) ?_
        repeat (refine gV_s rfl (by first | exact trivial | omega) ?_)
        refine gV_cS (ok_oneIf (d := d + 1) (P := fun r M'' => r = vI (M' 21 b) ∧ M'' = M') hbk.2.2.1 ⟨rfl, rfl⟩) mX6_oneIf_ok sX6_X6_oneIf rfl rfl rfl rfl ?_
        rintro r M'' ⟨rfl, rfl⟩
        exact gV_ret rfl trivial (doesP rfl)
      · repeat (refine gV_s rfl (by first | exact trivial | omega) ?_)
        refine gV_swIn 85 rfl (by unfold rng; omega) (by decide) (by decide) rfl (by decide) ?_
        repeat (refine gV_s rfl (by first | exact trivial | omega) ?_)
        exact gV_ret rfl trivial (doesP rfl)
      · repeat (refine gV_s rfl (by first | exact trivial | omega) ?_)
        refine gV_swIn 95 rfl (by unfold rng; omega) (by decide) (by decide) rfl (by decide) ?_
        repeat (refine gV_s rfl (by first | exact trivial | omega) ?_)
        refine gV_cV (ok_rateOfBucket (d := d) (P := fun r M'' => r = vI (rates M' b) ∧ M'' = M') h hb ⟨rfl, rfl⟩) mX1_rateOfBucket_ok sX6_X1_rateOfBucket rfl rfl rfl rfl rfl rfl ?_
        rintro r M'' ⟨rfl, rfl⟩
        exact gV_ret rfl trivial (doesP rfl)
      · repeat (refine gV_s rfl (by first | exact trivial | omega) ?_)
        refine gV_swIn 104 rfl (by unfold rng; omega) (by decide) (by decide) rfl (by decide) ?_
        repeat (refine gV_s rfl (by first | exact trivial | omega) ?_)
        exact gV_ret rfl trivial (doesP rfl)
    · repeat (refine gV_s rfl (by first | exact trivial | omega) ?_)
      refine gV_swOut 114 rfl hw (by omega) (by decide) ?_
      repeat (refine gV_s rfl (by first | exact trivial | omega) ?_)
      refine gV_ret rfl trivial (doesP ?_)
      simp only [show ¬ w = 0 by omega, show ¬ w = 1 by omega, show ¬ w = 2 by omega, show ¬ w = 3 by omega, show ¬ w = 4 by omega, show ¬ w = 5 by omega, if_false]
  · refine gV_it rfl (by unfold rng; omega) rfl ?_
    repeat (refine gV_s rfl (by first | exact trivial | omega) ?_)
    exact gV_ret rfl trivial (doesP (by unfold rBucket; rw [if_neg h1]))
def rOfFlow (S : Mem) (f w : Int) : Int := if 0 ≤ f ∧ f < S 3 0 then (if w = 0 then S 24 f else if w = 1 then bkO S f else if w = 2 then S 26 f else if w = 3 then S 27 f else if w = 4 then S 28 f else if w = 5 then (if S 25 f = -1 then 0 else 1) else -2) else -1
theorem ok_cOfFlow {d : Nat} {M : Mem} {f w : Int} (h : NI M) (hf : rng f) (hw : rng w) : gOk mX6_ofFlow (d + 2) [vR 0, vI f, vI w] M (does (rOfFlow M f w, M)) := by
  have hF := h.1.2.1
  have ha := h.1.2.2.2.2.2
  refine gOk_of mX6_ofFlow_ok (by simp) (Nat.le_of_ble_eq_true rfl) ?_
  repeat (refine gV_s rfl (by first | exact trivial | omega) ?_)
  refine gV_cS (ok_isBelow (d := d + 1) (M := M) hf (by unfold rng; omega)) mX6_isBelow_ok sX6_X6_isBelow rfl rfl rfl rfl ?_
  rintro r M' ⟨rfl, ⟨h1, rfl⟩ | ⟨h1, rfl⟩⟩
  · refine gV_in rfl (by unfold rng; omega) (by omega) ?_
    have hff := h.2.2.2.2.2.1 f
    have e : rOfFlow M' f w = (if w = 0 then M' 24 f else if w = 1 then bkO M' f else if w = 2 then M' 26 f else if w = 3 then M' 27 f else if w = 4 then M' 28 f else if w = 5 then (if M' 25 f = -1 then 0 else 1) else -2) := by unfold rOfFlow; rw [if_pos h1]
    rw [e]
    by_cases hc : 0 ≤ w ∧ w ≤ 5
    · have hcs : w = 0 ∨ w = 1 ∨ w = 2 ∨ w = 3 ∨ w = 4 ∨ w = 5 := by omega
      rcases hcs with rfl | rfl | rfl | rfl | rfl | rfl
      · repeat (refine gV_s rfl (by first | exact trivial | omega) ?_)
        refine gV_swIn 56 rfl (by unfold rng; omega) (by decide) (by decide) rfl (by decide) ?_
        repeat (refine gV_s rfl (by first | exact trivial | omega) ?_)
        exact gV_ret rfl trivial (doesP rfl)
      · repeat (refine gV_s rfl (by first | exact trivial | omega) ?_)
        refine gV_swIn 66 rfl (by unfold rng; omega) (by decide) (by decide) rfl (by decide) ?_
        repeat (refine gV_s rfl (by first | exact trivial | omega) ?_)
        refine gV_cV (ok_bucketOf (d := d + 1) (P := fun r M'' => r = vI (bkO M' f) ∧ M'' = M') h1.1 (by omega) ha.1 ha.2.1 (by unfold rng; omega) ⟨rfl, rfl⟩) mX1_bucketOf_ok sX6_X1_bucketOf rfl rfl rfl rfl rfl rfl ?_
        rintro r M'' ⟨rfl, rfl⟩
        exact gV_ret rfl trivial (doesP rfl)
      · repeat (refine gV_s rfl (by first | exact trivial | omega) ?_)
        refine gV_swIn 75 rfl (by unfold rng; omega) (by decide) (by decide) rfl (by decide) ?_
        repeat (refine gV_s rfl (by first | exact trivial | omega) ?_)
        exact gV_ret rfl trivial (doesP rfl)
      · repeat (refine gV_s rfl (by first | exact trivial | omega) ?_)
        refine gV_swIn 85 rfl (by unfold rng; omega) (by decide) (by decide) rfl (by decide) ?_
        repeat (refine gV_s rfl (by first | exact trivial | omega) ?_)
        exact gV_ret rfl trivial (doesP rfl)
      · repeat (refine gV_s rfl (by first | exact trivial | omega) ?_)
        refine gV_swIn 95 rfl (by unfold rng; omega) (by decide) (by decide) rfl (by decide) ?_
        repeat (refine gV_s rfl (by first | exact trivial | omega) ?_)
        exact gV_ret rfl trivial (doesP rfl)
      · repeat (refine gV_s rfl (by first | exact trivial | omega) ?_)
        refine gV_swIn 105 rfl (by unfold rng; omega) (by decide) (by decide) rfl (by decide) ?_
        repeat (refine gV_s rfl (by first | exact trivial | omega) ?_)
        refine gV_i rfl (by unfold rng; omega) (fun h2 => ?_) (fun h2 => ?_)
        · repeat (refine gV_s rfl (by first | exact trivial | omega) ?_)
          refine gV_cS (ok_oneIf (d := d + 1) (P := fun r M'' => r = vI 0 ∧ M'' = M') (Or.inl rfl) ⟨rfl, rfl⟩) mX6_oneIf_ok sX6_X6_oneIf rfl rfl rfl rfl ?_
          rintro r M'' ⟨rfl, rfl⟩
          exact gV_ret rfl trivial (doesP (by simp only [show ¬ (5 : Int) = 0 by decide, show ¬ (5 : Int) = 1 by decide, show ¬ (5 : Int) = 2 by decide, show ¬ (5 : Int) = 3 by decide, show ¬ (5 : Int) = 4 by decide, if_false, if_true, h2]))
        · repeat (refine gV_s rfl (by first | exact trivial | omega) ?_)
          refine gV_cS (ok_oneIf (d := d + 1) (P := fun r M'' => r = vI 1 ∧ M'' = M') (Or.inr rfl) ⟨rfl, rfl⟩) mX6_oneIf_ok sX6_X6_oneIf rfl rfl rfl rfl ?_
          rintro r M'' ⟨rfl, rfl⟩
          exact gV_ret rfl trivial (doesP (by simp only [show ¬ (5 : Int) = 0 by decide, show ¬ (5 : Int) = 1 by decide, show ¬ (5 : Int) = 2 by decide, show ¬ (5 : Int) = 3 by decide, show ¬ (5 : Int) = 4 by decide, if_false, if_true, h2]))
    · repeat (refine gV_s rfl (by first | exact trivial | omega) ?_)
      refine gV_swOut 127 rfl hw (by omega) (by decide) ?_
      repeat (refine gV_s rfl (by first | exact trivial | omega) ?_)
      refine gV_ret rfl trivial (doesP ?_)
      simp only [show ¬ w = 0 by omega, show ¬ w = 1 by omega, show ¬ w = 2 by omega, show ¬ w = 3 by omega, show ¬ w = 4 by omega, show ¬ w = 5 by omega, if_false]
  · refine gV_it rfl (by unfold rng; omega) rfl ?_
    repeat (refine gV_s rfl (by first | exact trivial | omega) ?_)
    exact gV_ret rfl trivial (doesP (by unfold rOfFlow; rw [if_neg h1]))
def rOut (S : Mem) (i : Int) : Int := if 0 ≤ i ∧ i < S 41 4 then S 40 i else -6
theorem ok_cOut {d : Nat} {M : Mem} {i : Int} (h : NI M) (hi : rng i) : gOk mX6_out (d + 1) [vR 0, vI i] M (does (rOut M i, M)) := by
  have n4 := AI_ins h (s := 4) (by decide) (by decide)
  refine gOk_of mX6_out_ok (by simp) (Nat.le_of_ble_eq_true rfl) ?_
  repeat (refine gV_s rfl (by first | exact trivial | omega) ?_)
  refine gV_cS (ok_isBelow (d := d) (M := M) hi (by unfold rng; omega)) mX6_isBelow_ok sX6_X6_isBelow rfl rfl rfl rfl ?_
  rintro r M' ⟨rfl, ⟨h1, rfl⟩ | ⟨h1, rfl⟩⟩
  · refine gV_in rfl (by unfold rng; omega) (by omega) ?_
    repeat (refine gV_s rfl (by first | exact trivial | omega) ?_)
    exact gV_ret rfl trivial (doesP (by unfold rOut; rw [if_pos h1]))
  · refine gV_it rfl (by unfold rng; omega) rfl ?_
    repeat (refine gV_s rfl (by first | exact trivial | omega) ?_)
    exact gV_ret rfl trivial (doesP (by unfold rOut; rw [if_neg h1]))
def rOrdered (S : Mem) (f : Int) : Int := if 0 ≤ f ∧ f < S 3 0 then (if S 30 f = 0 then 1 else 0) else -1
theorem ok_cOrdered {d : Nat} {M : Mem} {f : Int} (h : NI M) (hf : rng f) : gOk mX6_ordered (d + 1) [vR 0, vI f] M (does (rOrdered M f, M)) := by
  have hF := h.1.2.1
  refine gOk_of mX6_ordered_ok (by simp) (Nat.le_of_ble_eq_true rfl) ?_
  repeat (refine gV_s rfl (by first | exact trivial | omega) ?_)
  refine gV_cS (ok_isBelow (d := d) (M := M) hf (by unfold rng; omega)) mX6_isBelow_ok sX6_X6_isBelow rfl rfl rfl rfl ?_
  rintro r M' ⟨rfl, ⟨h1, rfl⟩ | ⟨h1, rfl⟩⟩
  · refine gV_in rfl (by unfold rng; omega) (by omega) ?_
    have hm := (h.2.2.2.2.2.2.2.2.2.2.2.2.2.2.1 f h1.1 h1.2).2
    have hm2 : M' 30 f = 0 ∨ M' 30 f = 1 := by rw [hm]; unfold bi; split; exact Or.inr rfl; exact Or.inl rfl
    repeat (refine gV_s rfl (by first | exact trivial | omega) ?_)
    refine gV_i rfl (by unfold rng; omega) (fun h2 => ?_) (fun h2 => ?_)
    · repeat (refine gV_s rfl (by first | exact trivial | omega) ?_)
      refine gV_cS (ok_oneIf (d := d) (P := fun r M'' => r = vI 1 ∧ M'' = M') (Or.inr rfl) ⟨rfl, rfl⟩) mX6_oneIf_ok sX6_X6_oneIf rfl rfl rfl rfl ?_
      rintro r M'' ⟨rfl, rfl⟩
      exact gV_ret rfl trivial (doesP (by unfold rOrdered; rw [if_pos h1, if_pos h2]))
    · repeat (refine gV_s rfl (by first | exact trivial | omega) ?_)
      refine gV_cS (ok_oneIf (d := d) (P := fun r M'' => r = vI 0 ∧ M'' = M') (Or.inl rfl) ⟨rfl, rfl⟩) mX6_oneIf_ok sX6_X6_oneIf rfl rfl rfl rfl ?_
      rintro r M'' ⟨rfl, rfl⟩
      exact gV_ret rfl trivial (doesP (by unfold rOrdered; rw [if_pos h1, if_neg h2]))
  · refine gV_it rfl (by unfold rng; omega) rfl ?_
    repeat (refine gV_s rfl (by first | exact trivial | omega) ?_)
    exact gV_ret rfl trivial (doesP (by unfold rOrdered; rw [if_neg h1]))
def rTold (S : Mem) (w : Int) : Int := if w = 0 then S 5 0 else if w = 1 then S 1 0 else if w = 2 then S 3 0 else if w = 3 then S 4 0 else if w = 4 then S 41 0 else if w = 5 then S 41 1 else if w = 6 then S 41 2 else if w = 7 then S 41 3 else if w = 8 then S 41 4 else if w = 9 then S 41 5 else if w = 10 then S 5 1 else -2
theorem ok_cTold {d : Nat} {M : Mem} {w : Int} (h : NI M) (hw : rng w) : gOk mX6_told (d + 1) [vR 0, vI w] M (does (rTold M w, M)) := by
  have hno := h.1.2.2.2.2.1
  refine gOk_of mX6_told_ok (by simp) (Nat.le_of_ble_eq_true rfl) ?_
  unfold rTold
  by_cases hc : 0 ≤ w ∧ w ≤ 10
  · have hcs : w = 0 ∨ w = 1 ∨ w = 2 ∨ w = 3 ∨ w = 4 ∨ w = 5 ∨ w = 6 ∨ w = 7 ∨ w = 8 ∨ w = 9 ∨ w = 10 := by omega
    rcases hcs with rfl | rfl | rfl | rfl | rfl | rfl | rfl | rfl | rfl | rfl | rfl
    · repeat (refine gV_s rfl (by first | exact trivial | omega) ?_)
      refine gV_swIn 60 rfl (by unfold rng; omega) (by decide) (by decide) rfl (by decide) ?_
      repeat (refine gV_s rfl (by first | exact trivial | omega) ?_)
      exact gV_ret rfl trivial (doesP rfl)
    · repeat (refine gV_s rfl (by first | exact trivial | omega) ?_)
      refine gV_swIn 68 rfl (by unfold rng; omega) (by decide) (by decide) rfl (by decide) ?_
      repeat (refine gV_s rfl (by first | exact trivial | omega) ?_)
      exact gV_ret rfl trivial (doesP rfl)
    · repeat (refine gV_s rfl (by first | exact trivial | omega) ?_)
      refine gV_swIn 76 rfl (by unfold rng; omega) (by decide) (by decide) rfl (by decide) ?_
      repeat (refine gV_s rfl (by first | exact trivial | omega) ?_)
      exact gV_ret rfl trivial (doesP rfl)
    · repeat (refine gV_s rfl (by first | exact trivial | omega) ?_)
      refine gV_swIn 84 rfl (by unfold rng; omega) (by decide) (by decide) rfl (by decide) ?_
      repeat (refine gV_s rfl (by first | exact trivial | omega) ?_)
      exact gV_ret rfl trivial (doesP rfl)
    · repeat (refine gV_s rfl (by first | exact trivial | omega) ?_)
      refine gV_swIn 92 rfl (by unfold rng; omega) (by decide) (by decide) rfl (by decide) ?_
      repeat (refine gV_s rfl (by first | exact trivial | omega) ?_)
      exact gV_ret rfl trivial (doesP rfl)
    · repeat (refine gV_s rfl (by first | exact trivial | omega) ?_)
      refine gV_swIn 102 rfl (by unfold rng; omega) (by decide) (by decide) rfl (by decide) ?_
      repeat (refine gV_s rfl (by first | exact trivial | omega) ?_)
      exact gV_ret rfl trivial (doesP rfl)
    · repeat (refine gV_s rfl (by first | exact trivial | omega) ?_)
      refine gV_swIn 112 rfl (by unfold rng; omega) (by decide) (by decide) rfl (by decide) ?_
      repeat (refine gV_s rfl (by first | exact trivial | omega) ?_)
      exact gV_ret rfl trivial (doesP rfl)
    · repeat (refine gV_s rfl (by first | exact trivial | omega) ?_)
      refine gV_swIn 122 rfl (by unfold rng; omega) (by decide) (by decide) rfl (by decide) ?_
      repeat (refine gV_s rfl (by first | exact trivial | omega) ?_)
      exact gV_ret rfl trivial (doesP rfl)
    · repeat (refine gV_s rfl (by first | exact trivial | omega) ?_)
      refine gV_swIn 132 rfl (by unfold rng; omega) (by decide) (by decide) rfl (by decide) ?_
      repeat (refine gV_s rfl (by first | exact trivial | omega) ?_)
      exact gV_ret rfl trivial (doesP rfl)
    · repeat (refine gV_s rfl (by first | exact trivial | omega) ?_)
      refine gV_swIn 142 rfl (by unfold rng; omega) (by decide) (by decide) rfl (by decide) ?_
      repeat (refine gV_s rfl (by first | exact trivial | omega) ?_)
      exact gV_ret rfl trivial (doesP rfl)
    · repeat (refine gV_s rfl (by first | exact trivial | omega) ?_)
      refine gV_swIn 152 rfl (by unfold rng; omega) (by decide) (by decide) rfl (by decide) ?_
      repeat (refine gV_s rfl (by first | exact trivial | omega) ?_)
      refine gV_cS (ok_oneIf (d := d) (P := fun r M'' => r = vI (M 5 1) ∧ M'' = M) hno ⟨rfl, rfl⟩) mX6_oneIf_ok sX6_X6_oneIf rfl rfl rfl rfl ?_
      rintro r M'' ⟨rfl, rfl⟩
      exact gV_ret rfl trivial (doesP rfl)
  · repeat (refine gV_s rfl (by first | exact trivial | omega) ?_)
    refine gV_swOut 163 rfl hw (by omega) (by decide) ?_
    repeat (refine gV_s rfl (by first | exact trivial | omega) ?_)
    refine gV_ret rfl trivial (doesP ?_)
    simp only [show ¬ w = 0 by omega, show ¬ w = 1 by omega, show ¬ w = 2 by omega, show ¬ w = 3 by omega, show ¬ w = 4 by omega, show ¬ w = 5 by omega, show ¬ w = 6 by omega, show ¬ w = 7 by omega, show ¬ w = 8 by omega, show ¬ w = 9 by omega, show ¬ w = 10 by omega, if_false]
def rPlan (S : Mem) (b : Int) : Int := if 0 ≤ b ∧ b < 8 then (if S 6 0 = 0 then -3 else S 43 b) else -1
theorem ok_cPlan {d : Nat} {M : Mem} {b : Int} (h : NI M) (hb : rng b) : gOk mX6_plan (d + 1) [vR 0, vI b] M (does (rPlan M b, M)) := by
  have hp := h.1.2.2.2.2.2.2.2
  refine gOk_of mX6_plan_ok (by simp) (Nat.le_of_ble_eq_true rfl) ?_
  repeat (refine gV_s rfl (by first | exact trivial | omega) ?_)
  refine gV_cS (ok_isBelow (d := d) (M := M) hb (by unfold rng; omega)) mX6_isBelow_ok sX6_X6_isBelow rfl rfl rfl rfl ?_
  rintro r M' ⟨rfl, ⟨h1, rfl⟩ | ⟨h1, rfl⟩⟩
  · refine gV_in rfl (by unfold rng; omega) (by omega) ?_
    repeat (refine gV_s rfl (by first | exact trivial | omega) ?_)
    refine gV_i rfl (by unfold rng; omega) (fun h2 => ?_) (fun h2 => ?_)
    · repeat (refine gV_s rfl (by first | exact trivial | omega) ?_)
      exact gV_ret rfl trivial (doesP (by unfold rPlan; rw [if_pos h1, if_pos h2]))
    · repeat (refine gV_s rfl (by first | exact trivial | omega) ?_)
      exact gV_ret rfl trivial (doesP (by unfold rPlan; rw [if_pos h1, if_neg h2]))
  · refine gV_it rfl (by unfold rng; omega) rfl ?_
    repeat (refine gV_s rfl (by first | exact trivial | omega) ?_)
    exact gV_ret rfl trivial (doesP (by unfold rPlan; rw [if_neg h1]))
