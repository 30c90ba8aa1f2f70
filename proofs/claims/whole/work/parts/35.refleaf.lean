/-! The reference's small methods. -/
theorem ok_in {d : Nat} {M : Mem} {x lo hi : Int} (hx : rng x) (hl : rng lo) (hh : rng hi) : gOk mX7_in d [vI x, vI lo, vI hi] M (yn (lo ≤ x ∧ x ≤ hi) M) := by
  refine gOk_of mX7_in_ok (by simp) (Nat.le_of_ble_eq_true rfl) ?_
  repeat (refine gV_s rfl (by first | exact trivial | omega) ?_)
  refine gV_i rfl ⟨hx, hl⟩ (fun h1 => ?_) (fun h1 => ?_)
  · repeat (refine gV_s rfl (by first | exact trivial | omega) ?_)
    exact gV_ret rfl (Or.inl rfl) ⟨rfl, Or.inr ⟨by omega, rfl⟩⟩
  · repeat (refine gV_s rfl (by first | exact trivial | omega) ?_)
    refine gV_i rfl ⟨hx, hh⟩ (fun h2 => ?_) (fun h2 => ?_)
    · repeat (refine gV_s rfl (by first | exact trivial | omega) ?_)
      exact gV_ret rfl (Or.inl rfl) ⟨rfl, Or.inr ⟨by omega, rfl⟩⟩
    · repeat (refine gV_s rfl (by first | exact trivial | omega) ?_)
      exact gV_ret rfl (Or.inr rfl) ⟨rfl, Or.inl ⟨by omega, rfl⟩⟩
theorem ok_isLink {d : Nat} {M : Mem} {x : Int} (h : MR M) (hx : rng x) : gOk mX7_isLink (d + 1) [vR 47, vI x] M (yn (0 ≤ x ∧ x < M 47 1) M) := by
  have h1 := h.2.1
  refine gOk_of mX7_isLink_ok (by simp) (Nat.le_of_ble_eq_true rfl) ?_
  repeat (refine gV_s rfl (by first | exact trivial | omega) ?_)
  refine gV_cS (ok_in (d := d) (M := M) hx (by unfold rng; omega) (by unfold rng; omega)) mX7_in_ok sX7_X7_in rfl rfl rfl rfl ?_
  rintro r M' ⟨rfl, ⟨h2, rfl⟩ | ⟨h2, rfl⟩⟩
  · exact gV_ret rfl (Or.inr rfl) ⟨rfl, Or.inl ⟨by omega, rfl⟩⟩
  · exact gV_ret rfl (Or.inl rfl) ⟨rfl, Or.inr ⟨by omega, rfl⟩⟩
theorem ok_isFlow {d : Nat} {M : Mem} {x : Int} (h : MR M) (hx : rng x) : gOk mX7_isFlow (d + 1) [vR 47, vI x] M (yn (0 ≤ x ∧ x < M 47 10) M) := by
  have h1 := h.2.2.1
  refine gOk_of mX7_isFlow_ok (by simp) (Nat.le_of_ble_eq_true rfl) ?_
  repeat (refine gV_s rfl (by first | exact trivial | omega) ?_)
  refine gV_cS (ok_in (d := d) (M := M) hx (by unfold rng; omega) (by unfold rng; omega)) mX7_in_ok sX7_X7_in rfl rfl rfl rfl ?_
  rintro r M' ⟨rfl, ⟨h2, rfl⟩ | ⟨h2, rfl⟩⟩
  · exact gV_ret rfl (Or.inr rfl) ⟨rfl, Or.inl ⟨by omega, rfl⟩⟩
  · exact gV_ret rfl (Or.inl rfl) ⟨rfl, Or.inr ⟨by omega, rfl⟩⟩
theorem ok_isBucket {d : Nat} {M : Mem} {x : Int} (hx : rng x) : gOk mX7_isBucket (d + 1) [vI x] M (yn (0 ≤ x ∧ x < 8) M) := by
  refine gOk_of mX7_isBucket_ok (by simp) (Nat.le_of_ble_eq_true rfl) ?_
  repeat (refine gV_s rfl (by first | exact trivial | omega) ?_)
  refine gV_cS (ok_in (d := d) (M := M) hx (by unfold rng; omega) (by unfold rng; omega)) mX7_in_ok sX7_X7_in rfl rfl rfl rfl ?_
  rintro r M' ⟨rfl, ⟨h2, rfl⟩ | ⟨h2, rfl⟩⟩
  · exact gV_ret rfl (Or.inr rfl) ⟨rfl, Or.inl ⟨by omega, rfl⟩⟩
  · exact gV_ret rfl (Or.inl rfl) ⟨rfl, Or.inr ⟨by omega, rfl⟩⟩
theorem ok_queue {d : Nat} {M : Mem} {i l : Int} {P : PV → Mem → Prop} (i0 : 0 ≤ i) (i4 : i < 400) (hP : P none (mQueue M i l)) : gOk mX7_queue d [vR 47, vI i, vI l] M P := by
  refine gOk_of mX7_queue_ok (by simp) (Nat.le_of_ble_eq_true rfl) ?_
  repeat (refine gV_s rfl (by first | exact trivial | omega) ?_)
  exact gV_retv rfl trivial hP
def bkM (M : Mem) (f : Int) : Int := if M 57 f < 0 then (f * M 47 13 + M 47 14) % 8 else M 57 f
theorem ok_bucketNow {d : Nat} {M : Mem} {f : Int} {P : PV → Mem → Prop} (h : MR M) (h0 : 0 ≤ f) (h1 : f < 16) (hP : P (vI (bkM M f)) M) : gOk mX7_bucketNow d [vR 47, vI f] M P := by
  have ha := h.2.2.2.2.2.1
  have hc := h.2.2.2.2.2.2.1
  have hp := (h.2.2.2.2.2.2.2.2.2.2.2.2.1 f).2
  refine gOk_of mX7_bucketNow_ok (by simp) (Nat.le_of_ble_eq_true rfl) ?_
  have hb := fa_bd h0 h1 ha.1 ha.2
  unfold bkM at hP
  repeat (refine gV_s rfl (by first | exact trivial | omega) ?_)
  refine gV_i rfl (by unfold rng; omega) (fun h2 => ?_) (fun h2 => ?_)
  · repeat (refine gV_s rfl (by first | exact trivial | omega) ?_)
    rw [if_pos h2] at hP
    exact gV_ret rfl trivial hP
  · repeat (refine gV_s rfl (by first | exact trivial | omega) ?_)
    rw [if_neg h2] at hP
    exact gV_ret rfl trivial hP
theorem bkM_eq {S M : Mem} {lo : Int → Int} {x B f : Int} (h : AI S lo x) (hR : RM S M B) : bkM M f = bkO S f := by
  have hf := h.2.2.2.2.2.1 f
  unfold bkM bkO
  rw [hR.1.2.2.2.2.2.2.2.2.2.1, hR.2.1.2.2.2.1, hR.2.1.2.2.2.2.1]
  by_cases e : S 25 f = -1
  · rw [if_pos (by omega), if_pos e]
  · rw [if_neg (by omega), if_neg e]
theorem open_loop {d : Nat} {M : Mem} {f : Int} (h : MR M) (hf : rng f) : ∀ (n k : Nat) (z : Int), (k : Int) + n = M 47 16 → ((z = 1 ∧ ∃ i, 0 ≤ i ∧ i < (k : Int) ∧ M 61 i < 4 ∧ (f < 0 ∨ M 58 i = f)) ∨ (z = 0 ∧ ¬ ∃ i, 0 ≤ i ∧ i < (k : Int) ∧ M 61 i < 4 ∧ (f < 0 ∨ M 58 i = f))) →
    gV mX7_hasOpen d (yn (∃ i, 0 ≤ i ∧ i < M 47 16 ∧ M 61 i < 4 ∧ (f < 0 ∨ M 58 i = f)) M) 9 [vR 47, vI f, vI z, vI k] [vI (M 47 16), vI k] M
  | 0, k, z, hk, hz => by
    have hn := h.1
    refine gV_it rfl (by unfold rng; omega) (by omega) ?_
    repeat (refine gV_s rfl (by first | exact trivial | omega) ?_)
    rw [show (k : Int) = M 47 16 by omega] at hz
    rcases hz with ⟨rfl, q⟩ | ⟨rfl, q⟩
    · exact gV_ret rfl (Or.inr rfl) ⟨rfl, Or.inl ⟨q, rfl⟩⟩
    · exact gV_ret rfl (Or.inl rfl) ⟨rfl, Or.inr ⟨q, rfl⟩⟩
  | n + 1, k, z, hk, hz => by
    have hn := h.1
    have hi := h.2.2.2.2.2.2.2.2.2.1 k
    have yes : (∃ i, 0 ≤ i ∧ i < ((k + 1 : Nat) : Int) ∧ M 61 i < 4 ∧ (f < 0 ∨ M 58 i = f)) → gV mX7_hasOpen d (yn (∃ i, 0 ≤ i ∧ i < M 47 16 ∧ M 61 i < 4 ∧ (f < 0 ∨ M 58 i = f)) M) 45 [vR 47, vI f, vI z, vI k] [vI 1] M := fun q => by
      have ih := open_loop (d := d) h hf n (k + 1) 1 (by push_cast; omega) (Or.inl ⟨rfl, q⟩)
      repeat (refine gV_s rfl (by first | exact trivial | omega) ?_)
      exact ih
    have no : (¬ ∃ i, 0 ≤ i ∧ i < ((k + 1 : Nat) : Int) ∧ M 61 i < 4 ∧ (f < 0 ∨ M 58 i = f)) → gV mX7_hasOpen d (yn (∃ i, 0 ≤ i ∧ i < M 47 16 ∧ M 61 i < 4 ∧ (f < 0 ∨ M 58 i = f)) M) 45 [vR 47, vI f, vI z, vI k] [vI 0] M := fun q => by
      have ih := open_loop (d := d) h hf n (k + 1) 0 (by push_cast; omega) (Or.inr ⟨rfl, q⟩)
      repeat (refine gV_s rfl (by first | exact trivial | omega) ?_)
      exact ih
    have none : z = 0 → ¬ (M 61 k < 4 ∧ (f < 0 ∨ M 58 k = f)) → ¬ ∃ i, 0 ≤ i ∧ i < ((k + 1 : Nat) : Int) ∧ M 61 i < 4 ∧ (f < 0 ∨ M 58 i = f) := by
      rintro hz0 hne ⟨i, i0, i1, i2⟩
      rcases hz with q | ⟨_, q⟩
      · omega
      · by_cases e : i = k
        · subst e; exact hne i2
        · exact q ⟨i, i0, by push_cast at i1; omega, i2⟩
    unfold rng at hf
    have hz1 : z = 0 ∨ z = 1 := by rcases hz with q | q; exact Or.inr q.1; exact Or.inl q.1
    refine gV_in rfl (by clear hz; unfold rng; omega) (by clear hz; omega) ?_
    repeat (refine gV_s rfl (by first | exact trivial | omega) ?_)
    refine gV_i rfl (by clear hz; unfold rng; omega) (fun h1 => ?_) (fun h1 => ?_)
    · repeat (refine gV_s rfl (by first | exact trivial | omega) ?_)
      refine gV_i rfl (by clear hz; unfold rng; omega) (fun h2 => ?_) (fun h2 => ?_)
      · refine gV_s rfl trivial ?_
        exact no (none h1 (by omega))
      · repeat (refine gV_s rfl (by first | exact trivial | omega) ?_)
        refine gV_i rfl (by unfold rng; omega) (fun h3 => ?_) (fun h3 => ?_)
        · refine gV_s rfl trivial (gV_s rfl trivial ?_)
          exact yes ⟨k, by omega, by push_cast; omega, by omega, Or.inl h3⟩
        · repeat (refine gV_s rfl (by first | exact trivial | omega) ?_)
          refine gV_i rfl (by unfold rng; omega) (fun h4 => ?_) (fun h4 => ?_)
          · refine gV_s rfl trivial (gV_s rfl trivial ?_)
            exact yes ⟨k, by omega, by push_cast; omega, by omega, Or.inr h4⟩
          · refine gV_s rfl trivial ?_
            exact no (none h1 (by omega))
    · refine gV_s rfl trivial (gV_s rfl trivial ?_)
      rcases hz with ⟨_, i, i0, i1, i2⟩ | q
      · exact yes ⟨i, i0, by push_cast; omega, i2⟩
      · omega
theorem ok_hasOpen {d : Nat} {M : Mem} {f : Int} (h : MR M) (hf : rng f) : gOk mX7_hasOpen d [vR 47, vI f] M (yn (∃ i, 0 ≤ i ∧ i < M 47 16 ∧ M 61 i < 4 ∧ (f < 0 ∨ M 58 i = f)) M) := by
  have hn := h.1
  refine gOk_of mX7_hasOpen_ok (by simp) (Nat.le_of_ble_eq_true rfl) ?_
  repeat (refine gV_s rfl (by first | exact trivial | omega) ?_)
  exact open_loop h hf (M 47 16).toNat 0 0 (by omega) (Or.inr ⟨rfl, fun ⟨i, i0, i1, _⟩ => by omega⟩)
def cHd (M : Mem) (b : Int) : Int → Bool := fun j => decide (M 61 j = 0 ∧ M 60 j = b)
theorem held_loop {d : Nat} {M : Mem} {b : Int} {P : PV → Mem → Prop} (h : MR M) (hb : rng b) (hP : P (vI (ct (cHd M b) (M 47 16).toNat)) M) : ∀ (n k : Nat), (k : Int) + n = M 47 16 → gV mX7_held d P 9 [vR 47, vI b, vI (ct (cHd M b) k), vI k] [vI (M 47 16), vI k] M
  | 0, k, hk => by
    have hn := h.1
    have e : k = (M 47 16).toNat := by omega
    refine gV_it rfl (by unfold rng; omega) (by omega) ?_
    repeat (refine gV_s rfl (by first | exact trivial | omega) ?_)
    rw [e]
    exact gV_ret rfl trivial hP
  | n + 1, k, hk => by
    have hn := h.1
    have hi := h.2.2.2.2.2.2.2.2.2.1 k
    have ih := held_loop (d := d) h hb hP n (k + 1) (by push_cast; omega)
    rw [ct_s _ k] at ih
    unfold rng at hb
    refine gV_in rfl (by unfold rng; omega) (by omega) ?_
    repeat (refine gV_s rfl (by first | exact trivial | omega) ?_)
    refine gV_i rfl (by unfold rng; omega) (fun h1 => ?_) (fun h1 => ?_)
    · repeat (refine gV_s rfl (by first | exact trivial | omega) ?_)
      refine gV_i rfl (by unfold rng; omega) (fun h2 => ?_) (fun h2 => ?_)
      · rw [if_pos (by unfold cHd; simp [h1, h2])] at ih
        repeat (refine gV_s rfl (by first | exact trivial | omega) ?_)
        exact ih
      · rw [if_neg (by unfold cHd; simp [h2])] at ih
        repeat (refine gV_s rfl (by first | exact trivial | omega) ?_)
        exact ih
    · rw [if_neg (by unfold cHd; simp [h1])] at ih
      repeat (refine gV_s rfl (by first | exact trivial | omega) ?_)
      exact ih
theorem ok_held {d : Nat} {M : Mem} {b : Int} {P : PV → Mem → Prop} (h : MR M) (hb : rng b) (hP : P (vI (ct (cHd M b) (M 47 16).toNat)) M) : gOk mX7_held d [vR 47, vI b] M P := by
  have hn := h.1
  refine gOk_of mX7_held_ok (by simp) (Nat.le_of_ble_eq_true rfl) ?_
  repeat (refine gV_s rfl (by first | exact trivial | omega) ?_)
  exact held_loop h hb hP (M 47 16).toNat 0 (by omega)
def cFl (M : Mem) (f s : Int) : Int → Bool := fun j => decide (M 58 j = f ∧ (s < 0 ∨ M 61 j = s))
theorem ofl_loop {d : Nat} {M : Mem} {f s : Int} {P : PV → Mem → Prop} (h : MR M) (hf : rng f) (hs : rng s) (hP : P (vI (ct (cFl M f s) (M 47 16).toNat)) M) : ∀ (n k : Nat), (k : Int) + n = M 47 16 → gV mX7_ofFlowIn d P 11 [vR 47, vI f, vI s, vI (ct (cFl M f s) k), vI k] [vI (M 47 16), vI k] M
  | 0, k, hk => by
    have hn := h.1
    have e : k = (M 47 16).toNat := by omega
    refine gV_it rfl (by unfold rng; omega) (by omega) ?_
    repeat (refine gV_s rfl (by first | exact trivial | omega) ?_)
    rw [e]
    exact gV_ret rfl trivial hP
  | n + 1, k, hk => by
    have hn := h.1
    have hi := h.2.2.2.2.2.2.2.2.2.1 k
    have ih := ofl_loop (d := d) h hf hs hP n (k + 1) (by push_cast; omega)
    rw [ct_s _ k] at ih
    unfold rng at hf hs
    refine gV_in rfl (by unfold rng; omega) (by omega) ?_
    repeat (refine gV_s rfl (by first | exact trivial | omega) ?_)
    refine gV_i rfl (by unfold rng; omega) (fun h1 => ?_) (fun h1 => ?_)
    · repeat (refine gV_s rfl (by first | exact trivial | omega) ?_)
      refine gV_i rfl (by unfold rng; omega) (fun h2 => ?_) (fun h2 => ?_)
      · rw [if_pos (by unfold cFl; simp [h1, h2])] at ih
        repeat (refine gV_s rfl (by first | exact trivial | omega) ?_)
        exact ih
      · repeat (refine gV_s rfl (by first | exact trivial | omega) ?_)
        refine gV_i rfl (by unfold rng; omega) (fun h3 => ?_) (fun h3 => ?_)
        · rw [if_pos (by unfold cFl; simp [h1, h3])] at ih
          repeat (refine gV_s rfl (by first | exact trivial | omega) ?_)
          exact ih
        · rw [if_neg (by unfold cFl; simp [h2, h3])] at ih
          repeat (refine gV_s rfl (by first | exact trivial | omega) ?_)
          exact ih
    · rw [if_neg (by unfold cFl; simp [h1])] at ih
      repeat (refine gV_s rfl (by first | exact trivial | omega) ?_)
      exact ih
theorem ok_ofFlowIn {d : Nat} {M : Mem} {f s : Int} {P : PV → Mem → Prop} (h : MR M) (hf : rng f) (hs : rng s) (hP : P (vI (ct (cFl M f s) (M 47 16).toNat)) M) : gOk mX7_ofFlowIn d [vR 47, vI f, vI s] M P := by
  have hn := h.1
  refine gOk_of mX7_ofFlowIn_ok (by simp) (Nat.le_of_ble_eq_true rfl) ?_
  repeat (refine gV_s rfl (by first | exact trivial | omega) ?_)
  exact ofl_loop h hf hs hP (M 47 16).toNat 0 (by omega)
def cIn (M : Mem) (s l : Int) : Int → Bool := fun j => decide (M 61 j = s ∧ (l < 0 ∨ M 62 j = l))
theorem ins_loop {d : Nat} {M : Mem} {s l : Int} {P : PV → Mem → Prop} (h : MR M) (hs : rng s) (hl : rng l) (hP : P (vI (ct (cIn M s l) (M 47 16).toNat)) M) : ∀ (n k : Nat), (k : Int) + n = M 47 16 → gV mX7_inState d P 11 [vR 47, vI s, vI l, vI (ct (cIn M s l) k), vI k] [vI (M 47 16), vI k] M
  | 0, k, hk => by
    have hn := h.1
    have e : k = (M 47 16).toNat := by omega
    refine gV_it rfl (by unfold rng; omega) (by omega) ?_
    repeat (refine gV_s rfl (by first | exact trivial | omega) ?_)
    rw [e]
    exact gV_ret rfl trivial hP
  | n + 1, k, hk => by
    have hn := h.1
    have hi := h.2.2.2.2.2.2.2.2.2.1 k
    have hi2 := hi.2.2.2.2.2 (by omega) (by omega)
    have ih := ins_loop (d := d) h hs hl hP n (k + 1) (by push_cast; omega)
    rw [ct_s _ k] at ih
    unfold rng at hs hl
    refine gV_in rfl (by unfold rng; omega) (by omega) ?_
    repeat (refine gV_s rfl (by first | exact trivial | omega) ?_)
    refine gV_i rfl (by unfold rng; omega) (fun h1 => ?_) (fun h1 => ?_)
    · repeat (refine gV_s rfl (by first | exact trivial | omega) ?_)
      refine gV_i rfl (by unfold rng; omega) (fun h2 => ?_) (fun h2 => ?_)
      · rw [if_pos (by unfold cIn; simp [h1, h2])] at ih
        repeat (refine gV_s rfl (by first | exact trivial | omega) ?_)
        exact ih
      · repeat (refine gV_s rfl (by first | exact trivial | omega) ?_)
        refine gV_i rfl (by unfold rng; omega) (fun h3 => ?_) (fun h3 => ?_)
        · rw [if_pos (by unfold cIn; simp [h1, h3])] at ih
          repeat (refine gV_s rfl (by first | exact trivial | omega) ?_)
          exact ih
        · rw [if_neg (by unfold cIn; simp [h2, h3])] at ih
          repeat (refine gV_s rfl (by first | exact trivial | omega) ?_)
          exact ih
    · rw [if_neg (by unfold cIn; simp [h1])] at ih
      repeat (refine gV_s rfl (by first | exact trivial | omega) ?_)
      exact ih
theorem ok_inState {d : Nat} {M : Mem} {s l : Int} {P : PV → Mem → Prop} (h : MR M) (hs : rng s) (hl : rng l) (hP : P (vI (ct (cIn M s l) (M 47 16).toNat)) M) : gOk mX7_inState d [vR 47, vI s, vI l] M P := by
  have hn := h.1
  refine gOk_of mX7_inState_ok (by simp) (Nat.le_of_ble_eq_true rfl) ?_
  repeat (refine gV_s rfl (by first | exact trivial | omega) ?_)
  exact ins_loop h hs hl hP (M 47 16).toNat 0 (by omega)
/-! who is first -/
def isQ (M : Mem) (l i : Int) : Prop := M 61 i = 1 ∧ M 62 i = l
def fstQ (M : Mem) (l : Int) (k r : Int) : Prop := (r = -6 ∧ ∀ i, 0 ≤ i → i < k → ¬ isQ M l i) ∨ (0 ≤ r ∧ r < k ∧ isQ M l r ∧ ∀ i, 0 ≤ i → i < k → isQ M l i → M 67 r ≤ M 67 i)
theorem fq_loop {d : Nat} {M : Mem} {l : Int} (h : MR M) (hl : rng l) : ∀ (n k : Nat) (r : Int) (z : PV), (k : Int) + n = M 47 16 → fstQ M l k r → gV mX7_firstQueued d (fun v M' => M' = M ∧ ∃ r, v = vI r ∧ fstQ M l (M 47 16) r) 10 [vR 47, vI l, vI r, vI k, z] [vI (M 47 16), vI k] M
  | 0, k, r, z, hk, hr => by
    have hn := h.1
    rw [show (k : Int) = M 47 16 by omega] at hr
    refine gV_it rfl (by unfold rng; omega) (by omega) ?_
    repeat (refine gV_s rfl (by first | exact trivial | omega) ?_)
    exact gV_ret rfl trivial ⟨rfl, r, rfl, hr⟩
  | n + 1, k, r, z, hk, hr => by
    have hn := h.1
    have hi := h.2.2.2.2.2.2.2.2.2.1 k
    have hi2 := hi.2.2.2.2.2 (by omega) (by omega)
    have hst := h.2.2.2.2.2.2.2.2.2.2.2.2.2.1
    have ih := fun r z hr => fq_loop (d := d) h hl n (k + 1) r z (by push_cast; omega) hr
    have hrr : r = -6 ∨ (0 ≤ r ∧ r < k) := by rcases hr with q | q; exact Or.inl q.1; exact Or.inr ⟨q.1, q.2.1⟩
    have take : isQ M l k → (r < 0 ∨ M 67 k < M 67 r) → fstQ M l ((k + 1 : Nat) : Int) k := by
      intro hq hlt
      refine Or.inr ⟨by omega, by push_cast; omega, hq, fun i i0 i1 i2 => ?_⟩
      by_cases e : i = k
      · subst e; exact Int.le_refl _
      · rcases hr with q | q
        · exact absurd i2 (q.2 i i0 (by push_cast at i1; omega))
        · have := q.2.2.2 i i0 (by push_cast at i1; omega) i2
          rcases hlt with w | w
          · omega
          · omega
    have keep : (isQ M l k → 0 ≤ r ∧ M 67 r ≤ M 67 k) → fstQ M l ((k + 1 : Nat) : Int) r := by
      intro hq
      rcases hr with q | q
      · refine Or.inl ⟨q.1, fun i i0 i1 => ?_⟩
        by_cases e : i = k
        · subst e; intro w; have := hq w; omega
        · exact q.2 i i0 (by push_cast at i1; omega)
      · refine Or.inr ⟨q.1, by push_cast; omega, q.2.2.1, fun i i0 i1 i2 => ?_⟩
        by_cases e : i = k
        · subst e; exact (hq i2).2
        · exact q.2.2.2 i i0 (by push_cast at i1; omega) i2
    unfold rng at hl
    refine gV_in rfl (by unfold rng; omega) (by omega) ?_
    have no : ¬ isQ M l k → gV mX7_firstQueued d (fun v M' => M' = M ∧ ∃ r, v = vI r ∧ fstQ M l (M 47 16) r) 37 [vR 47, vI l, vI r, vI k, z] [] M := by
      intro hq
      repeat (refine gV_s rfl (by first | exact trivial | omega) ?_)
      refine gV_it rfl (by unfold rng; omega) rfl ?_
      repeat (refine gV_s rfl (by first | exact trivial | omega) ?_)
      exact ih _ _ (keep (fun w => absurd w hq))
    repeat (refine gV_s rfl (by first | exact trivial | omega) ?_)
    refine gV_i rfl (by unfold rng; omega) (fun h1 => ?_) (fun h1 => ?_)
    · repeat (refine gV_s rfl (by first | exact trivial | omega) ?_)
      refine gV_i rfl (by unfold rng; omega) (fun h2 => ?_) (fun h2 => ?_)
      · have hq : isQ M l k := ⟨h1, h2⟩
        repeat (refine gV_s rfl (by first | exact trivial | omega) ?_)
        refine gV_in rfl (by unfold rng; omega) (by omega) ?_
        repeat (refine gV_s rfl (by first | exact trivial | omega) ?_)
        refine gV_i rfl (by unfold rng; omega) (fun h3 => ?_) (fun h3 => ?_)
        · repeat (refine gV_s rfl (by first | exact trivial | omega) ?_)
          exact ih _ _ (take hq (Or.inl h3))
        · have s1 := (hst k).1
          have s2 := (hst r).1
          repeat (refine gV_s rfl (by first | exact trivial | omega) ?_)
          refine gV_i rfl ⟨s1, s2⟩ (fun h4 => ?_) (fun h4 => ?_)
          · repeat (refine gV_s rfl (by first | exact trivial | omega) ?_)
            exact ih _ _ (keep (fun _ => ⟨by omega, h4⟩))
          · repeat (refine gV_s rfl (by first | exact trivial | omega) ?_)
            exact ih _ _ (take hq (Or.inr (by omega)))
      · exact no (fun q => h2 q.2)
    · exact no (fun q => h1 q.1)
theorem ok_firstQueued {d : Nat} {M : Mem} {l : Int} (h : MR M) (hl : rng l) : gOk mX7_firstQueued d [vR 47, vI l] M (fun v M' => M' = M ∧ ∃ r, v = vI r ∧ fstQ M l (M 47 16) r) := by
  have hn := h.1
  refine gOk_of mX7_firstQueued_ok (by simp) (Nat.le_of_ble_eq_true rfl) ?_
  repeat (refine gV_s rfl (by first | exact trivial | omega) ?_)
  exact fq_loop h hl (M 47 16).toNat 0 (-6) none (by omega) (Or.inl ⟨rfl, fun i i0 i1 => by omega⟩)
def isA (M : Mem) (l i : Int) : Prop := M 61 i = 2 ∧ M 62 i = l ∧ M 65 i = M 47 0
def fstA (M : Mem) (l : Int) (k r : Int) : Prop := (r = -6 ∧ ∀ i, 0 ≤ i → i < k → ¬ isA M l i) ∨ (0 ≤ r ∧ r < k ∧ isA M l r ∧ ∀ i, 0 ≤ i → i < k → isA M l i → M 68 r ≤ M 68 i)
theorem fa_loop {d : Nat} {M : Mem} {l : Int} (h : MR M) (hl : rng l) : ∀ (n k : Nat) (r : Int) (z : PV), (k : Int) + n = M 47 16 → fstA M l k r → gV mX7_firstArriving d (fun v M' => M' = M ∧ ∃ r, v = vI r ∧ fstA M l (M 47 16) r) 10 [vR 47, vI l, vI r, vI k, z] [vI (M 47 16), vI k] M
  | 0, k, r, z, hk, hr => by
    have hn := h.1
    rw [show (k : Int) = M 47 16 by omega] at hr
    refine gV_it rfl (by unfold rng; omega) (by omega) ?_
    repeat (refine gV_s rfl (by first | exact trivial | omega) ?_)
    exact gV_ret rfl trivial ⟨rfl, r, rfl, hr⟩
  | n + 1, k, r, z, hk, hr => by
    have hn := h.1
    have htm := h.2.2.2.1
    have hi := h.2.2.2.2.2.2.2.2.2.1 k
    have hi2 := hi.2.2.2.2.2 (by omega) (by omega)
    have hst := h.2.2.2.2.2.2.2.2.2.2.2.2.2.1
    have ih := fun r z hr => fa_loop (d := d) h hl n (k + 1) r z (by push_cast; omega) hr
    have hrr : r = -6 ∨ (0 ≤ r ∧ r < k) := by rcases hr with q | q; exact Or.inl q.1; exact Or.inr ⟨q.1, q.2.1⟩
    have take : isA M l k → (r < 0 ∨ M 68 k < M 68 r) → fstA M l ((k + 1 : Nat) : Int) k := by
      intro hq hlt
      refine Or.inr ⟨by omega, by push_cast; omega, hq, fun i i0 i1 i2 => ?_⟩
      by_cases e : i = k
      · subst e; exact Int.le_refl _
      · rcases hr with q | q
        · exact absurd i2 (q.2 i i0 (by push_cast at i1; omega))
        · have := q.2.2.2 i i0 (by push_cast at i1; omega) i2
          rcases hlt with w | w
          · omega
          · omega
    have keep : (isA M l k → 0 ≤ r ∧ M 68 r ≤ M 68 k) → fstA M l ((k + 1 : Nat) : Int) r := by
      intro hq
      rcases hr with q | q
      · refine Or.inl ⟨q.1, fun i i0 i1 => ?_⟩
        by_cases e : i = k
        · subst e; intro w; have := hq w; omega
        · exact q.2 i i0 (by push_cast at i1; omega)
      · refine Or.inr ⟨q.1, by push_cast; omega, q.2.2.1, fun i i0 i1 i2 => ?_⟩
        by_cases e : i = k
        · subst e; exact (hq i2).2
        · exact q.2.2.2 i i0 (by push_cast at i1; omega) i2
    unfold rng at hl
    refine gV_in rfl (by unfold rng; omega) (by omega) ?_
    have no : ¬ isA M l k → gV mX7_firstArriving d (fun v M' => M' = M ∧ ∃ r, v = vI r ∧ fstA M l (M 47 16) r) 50 [vR 47, vI l, vI r, vI k, z] [] M := by
      intro hq
      repeat (refine gV_s rfl (by first | exact trivial | omega) ?_)
      refine gV_it rfl (by unfold rng; omega) rfl ?_
      repeat (refine gV_s rfl (by first | exact trivial | omega) ?_)
      exact ih _ _ (keep (fun w => absurd w hq))
    repeat (refine gV_s rfl (by first | exact trivial | omega) ?_)
    refine gV_i rfl (by unfold rng; omega) (fun h1 => ?_) (fun h1 => ?_)
    · repeat (refine gV_s rfl (by first | exact trivial | omega) ?_)
      refine gV_i rfl (by unfold rng; omega) (fun h2 => ?_) (fun h2 => ?_)
      · repeat (refine gV_s rfl (by first | exact trivial | omega) ?_)
        refine gV_i rfl (by unfold rng; omega) (fun h5 => ?_) (fun h5 => ?_)
        · have hq : isA M l k := ⟨h1, h2, h5⟩
          repeat (refine gV_s rfl (by first | exact trivial | omega) ?_)
          refine gV_in rfl (by unfold rng; omega) (by omega) ?_
          repeat (refine gV_s rfl (by first | exact trivial | omega) ?_)
          refine gV_i rfl (by unfold rng; omega) (fun h3 => ?_) (fun h3 => ?_)
          · repeat (refine gV_s rfl (by first | exact trivial | omega) ?_)
            exact ih _ _ (take hq (Or.inl h3))
          · have s1 := (hst k).2
            have s2 := (hst r).2
            repeat (refine gV_s rfl (by first | exact trivial | omega) ?_)
            refine gV_i rfl ⟨s1, s2⟩ (fun h4 => ?_) (fun h4 => ?_)
            · repeat (refine gV_s rfl (by first | exact trivial | omega) ?_)
              exact ih _ _ (keep (fun _ => ⟨by omega, h4⟩))
            · repeat (refine gV_s rfl (by first | exact trivial | omega) ?_)
              exact ih _ _ (take hq (Or.inr (by omega)))
        · exact no (fun q => h5 q.2.2)
      · exact no (fun q => h2 q.2.1)
    · exact no (fun q => h1 q.1)
theorem ok_firstArriving {d : Nat} {M : Mem} {l : Int} (h : MR M) (hl : rng l) : gOk mX7_firstArriving d [vR 47, vI l] M (fun v M' => M' = M ∧ ∃ r, v = vI r ∧ fstA M l (M 47 16) r) := by
  have hn := h.1
  refine gOk_of mX7_firstArriving_ok (by simp) (Nat.le_of_ble_eq_true rfl) ?_
  repeat (refine gV_s rfl (by first | exact trivial | omega) ?_)
  exact fa_loop h hl (M 47 16).toNat 0 (-6) none (by omega) (Or.inl ⟨rfl, fun i i0 i1 => by omega⟩)
theorem ok_comesOut {d : Nat} {M : Mem} {i : Int} {P : PV → Mem → Prop} (i0 : 0 ≤ i) (i4 : i < 400) (h0 : 0 ≤ M 47 29) (h1 : M 47 29 < 400) (hP : P none (mOut M i)) : gOk mX7_comesOut d [vR 47, vI i] M P := by
  refine gOk_of mX7_comesOut_ok (by simp) (Nat.le_of_ble_eq_true rfl) ?_
  repeat (refine gV_s rfl (by first | exact trivial | omega) ?_)
  refine gV_s rfl ⟨h0, h1⟩ ?_
  repeat (refine gV_s rfl (by first | exact trivial | omega) ?_)
  exact gV_retv rfl trivial hP

def nxtP (M : Mem) (i : Int) (k : Int) : Prop := ∀ j, 0 ≤ j → j < k → M 58 j ≠ M 58 i ∨ 4 ≤ M 61 j
theorem next_loop {d : Nat} {M : Mem} {i : Int} (h : MR M) (i0 : 0 ≤ i) (i1 : i < 400) : ∀ (n k : Nat) (z : Int), (k : Int) + n = i → (z = 0 ∨ z = 1) → (z = 1 ↔ nxtP M i k) →
    gV mX7_isNext d (yn (nxtP M i i) M) 6 [vR 47, vI i, vI z, vI k] [vI i, vI k] M
  | 0, k, z, hk, hz1, hz => by
    refine gV_it rfl (by unfold rng; omega) (by omega) ?_
    repeat (refine gV_s rfl (by first | exact trivial | omega) ?_)
    rw [show (k : Int) = i by omega] at hz
    rcases hz1 with rfl | rfl
    · exact gV_ret rfl (Or.inl rfl) ⟨rfl, Or.inr ⟨fun q => by have := hz.mpr q; omega, rfl⟩⟩
    · exact gV_ret rfl (Or.inr rfl) ⟨rfl, Or.inl ⟨hz.mp rfl, rfl⟩⟩
  | n + 1, k, z, hk, hz1, hz => by
    have hk1 := h.2.2.2.2.2.2.2.2.2.1 k
    have hi1 := h.2.2.2.2.2.2.2.2.2.1 i
    have ih := fun z a b => next_loop (d := d) h i0 i1 n (k + 1) z (by push_cast; omega) a b
    have step : nxtP M i ((k + 1 : Nat) : Int) ↔ nxtP M i k ∧ (M 58 k ≠ M 58 i ∨ 4 ≤ M 61 k) := by
      constructor
      · intro q
        exact ⟨fun j j0 j1 => q j j0 (by push_cast; omega), q k (by omega) (by push_cast; omega)⟩
      · rintro ⟨q1, q2⟩ j j0 j1
        by_cases e : j = k
        · subst e; exact q2
        · exact q1 j j0 (by push_cast at j1; omega)
    rw [step] at ih
    refine gV_in rfl (by clear hz step ih; unfold rng; omega) (by clear hz step ih; omega) ?_
    repeat (refine gV_s rfl (by first | exact trivial | omega) ?_)
    refine gV_i rfl (by clear hz step ih; unfold rng; omega) (fun h1 => ?_) (fun h1 => ?_)
    · repeat (refine gV_s rfl (by first | exact trivial | omega) ?_)
      exact ih 0 (Or.inl rfl) ⟨fun q => by omega, fun q => by have := hz.mpr q.1; omega⟩
    · have hz2 : z = 1 := by rcases hz1 with q | q; exact absurd q h1; exact q
      have hq := hz.mp hz2
      repeat (refine gV_s rfl (by first | exact trivial | omega) ?_)
      refine gV_i rfl (by clear hz step ih; unfold rng; omega) (fun h2 => ?_) (fun h2 => ?_)
      · repeat (refine gV_s rfl (by first | exact trivial | omega) ?_)
        refine gV_i rfl (by clear hz step ih; unfold rng; omega) (fun h3 => ?_) (fun h3 => ?_)
        · repeat (refine gV_s rfl (by first | exact trivial | omega) ?_)
          refine ih 0 (Or.inl rfl) ⟨fun q => by omega, fun q => ?_⟩
          rcases q.2 with w | w
          · exact absurd h2 w
          · exact absurd h3 (Int.not_lt.mpr w)
        · repeat (refine gV_s rfl (by first | exact trivial | omega) ?_)
          exact ih 1 (Or.inr rfl) ⟨fun _ => ⟨hq, Or.inr (Int.not_lt.mp h3)⟩, fun _ => rfl⟩
      · repeat (refine gV_s rfl (by first | exact trivial | omega) ?_)
        exact ih 1 (Or.inr rfl) ⟨fun _ => ⟨hq, Or.inl h2⟩, fun _ => rfl⟩
theorem ok_isNext {d : Nat} {M : Mem} {i : Int} (h : MR M) (i0 : 0 ≤ i) (i1 : i < 400) : gOk mX7_isNext d [vR 47, vI i] M (yn (nxtP M i i) M) := by
  refine gOk_of mX7_isNext_ok (by simp) (Nat.le_of_ble_eq_true rfl) ?_
  repeat (refine gV_s rfl (by first | exact trivial | omega) ?_)
  exact next_loop h i0 i1 i.toNat 0 1 (by omega) (Or.inr rfl) ⟨fun _ j j0 j1 => by omega, fun _ => rfl⟩
def lateP (M : Mem) (l i : Int) : Prop := M 61 i = 1 ∨ (M 61 i = 2 ∧ M 47 0 + 1 + M 49 l ≤ M 65 i)
def canP (M : Mem) (b l k : Int) : Prop := ∀ i, 0 ≤ i → i < k → M 60 i = b → ¬ lateP M l i
theorem can_loopM {d : Nat} {M : Mem} {b l : Int} (h : MR M) (hb : rng b) (l0 : 0 ≤ l) (l4 : l < 4) : ∀ (n k : Nat) (z : Int) (w : PV), (k : Int) + n = M 47 16 → (z = 0 ∨ z = 1) → (z = 1 ↔ canP M b l k) →
    gV mX7_canCome d (yn (canP M b l (M 47 16)) M) 11 [vR 47, vI b, vI l, vI z, vI k, w] [vI (M 47 16), vI k] M
  | 0, k, z, w, hk, hz1, hz => by
    have hn := h.1
    refine gV_it rfl (by clear hz; unfold rng; omega) (by clear hz; omega) ?_
    repeat (refine gV_s rfl (by first | exact trivial | omega) ?_)
    rw [show (k : Int) = M 47 16 by omega] at hz
    rcases hz1 with rfl | rfl
    · exact gV_ret rfl (Or.inl rfl) ⟨rfl, Or.inr ⟨fun q => by have := hz.mpr q; omega, rfl⟩⟩
    · exact gV_ret rfl (Or.inr rfl) ⟨rfl, Or.inl ⟨hz.mp rfl, rfl⟩⟩
  | n + 1, k, z, w, hk, hz1, hz => by
    have hn := h.1
    have htm := h.2.2.2.1
    have hdl := (h.2.2.2.2.2.2.2.2.2.2.2.1 l).2.1
    have hk1 := h.2.2.2.2.2.2.2.2.2.1 k
    have ih := fun z w a b' => can_loopM (d := d) h hb l0 l4 n (k + 1) z w (by push_cast; omega) a b'
    have step : canP M b l ((k + 1 : Nat) : Int) ↔ canP M b l k ∧ (M 60 k = b → ¬ lateP M l k) := by
      constructor
      · intro q
        exact ⟨fun j j0 j1 => q j j0 (by push_cast; omega), q k (by omega) (by push_cast; omega)⟩
      · rintro ⟨q1, q2⟩ j j0 j1
        by_cases e : j = k
        · subst e; exact q2
        · exact q1 j j0 (by push_cast at j1; omega)
    rw [step] at ih
    unfold rng at hb
    have fin : ∀ v : Int, (v = 0 ∨ v = 1) → (v = 1 ↔ lateP M l k) → gV mX7_canCome d (yn (canP M b l (M 47 16)) M) 64 [vR 47, vI b, vI l, vI z, vI k, w] [vI v] M := by
      intro v hv1 hv
      repeat (refine gV_s rfl (by first | exact trivial | omega) ?_)
      refine gV_i rfl (by clear hz step ih hv; unfold rng; omega) (fun h1 => ?_) (fun h1 => ?_)
      · repeat (refine gV_s rfl (by first | exact trivial | omega) ?_)
        exact ih 0 _ (Or.inl rfl) ⟨fun q => by omega, fun q => by have := hz.mpr q.1; omega⟩
      · have hz2 : z = 1 := by rcases hz1 with q | q; exact absurd q h1; exact q
        have hq := hz.mp hz2
        repeat (refine gV_s rfl (by first | exact trivial | omega) ?_)
        refine gV_i rfl (by clear hz step ih hv; unfold rng; omega) (fun h2 => ?_) (fun h2 => ?_)
        · repeat (refine gV_s rfl (by first | exact trivial | omega) ?_)
          refine gV_i rfl (by clear hz step ih hv; unfold rng; omega) (fun h3 => ?_) (fun h3 => ?_)
          · repeat (refine gV_s rfl (by first | exact trivial | omega) ?_)
            exact ih 1 _ (Or.inr rfl) ⟨fun _ => ⟨hq, fun _ q => by have := hv.mpr q; omega⟩, fun _ => rfl⟩
          · repeat (refine gV_s rfl (by first | exact trivial | omega) ?_)
            have hv2 : v = 1 := by rcases hv1 with q | q; exact absurd q h3; exact q
            exact ih 0 _ (Or.inl rfl) ⟨fun q => by omega, fun q => absurd (hv.mp hv2) (q.2 h2)⟩
        · repeat (refine gV_s rfl (by first | exact trivial | omega) ?_)
          exact ih 1 _ (Or.inr rfl) ⟨fun _ => ⟨hq, fun q => absurd q h2⟩, fun _ => rfl⟩
    refine gV_in rfl (by clear hz step ih fin; unfold rng; omega) (by clear hz step ih fin; omega) ?_
    repeat (refine gV_s rfl (by first | exact trivial | omega) ?_)
    refine gV_i rfl (by clear hz step ih fin; unfold rng; omega) (fun h1 => ?_) (fun h1 => ?_)
    · refine gV_s rfl trivial (gV_s rfl trivial ?_)
      exact fin 1 (Or.inr rfl) ⟨fun _ => Or.inl h1, fun _ => rfl⟩
    · repeat (refine gV_s rfl (by first | exact trivial | omega) ?_)
      refine gV_i rfl (by clear hz step ih fin; unfold rng; omega) (fun h2 => ?_) (fun h2 => ?_)
      · repeat (refine gV_s rfl (by first | exact trivial | omega) ?_)
        refine gV_i rfl (by clear hz step ih fin; unfold rng; omega) (fun h3 => ?_) (fun h3 => ?_)
        · refine gV_s rfl trivial ?_
          refine fin 0 (Or.inl rfl) ⟨fun q => by omega, fun q => ?_⟩
          rcases q with q | q
          · exact absurd q h1
          · exact absurd h3 (Int.not_lt.mpr q.2)
        · refine gV_s rfl trivial (gV_s rfl trivial ?_)
          exact fin 1 (Or.inr rfl) ⟨fun _ => Or.inr ⟨h2, Int.not_lt.mp h3⟩, fun _ => rfl⟩
      · refine gV_s rfl trivial ?_
        refine fin 0 (Or.inl rfl) ⟨fun q => by omega, fun q => ?_⟩
        rcases q with q | q
        · exact absurd q h1
        · exact absurd q.1 h2
theorem ok_canCome {d : Nat} {M : Mem} {b l : Int} (h : MR M) (hb : rng b) (l0 : 0 ≤ l) (l4 : l < 4) : gOk mX7_canCome d [vR 47, vI b, vI l] M (yn (canP M b l (M 47 16)) M) := by
  have hn := h.1
  refine gOk_of mX7_canCome_ok (by simp) (Nat.le_of_ble_eq_true rfl) ?_
  repeat (refine gV_s rfl (by first | exact trivial | omega) ?_)
  exact can_loopM h hb l0 l4 (M 47 16).toNat 0 1 none (by omega) (Or.inr rfl) ⟨fun _ j j0 j1 => by omega, fun _ => rfl⟩
theorem mayk_iff {S : Mem} {b l : Int} : ∀ k : Nat, mayk S b l k = true ↔ ∀ i : Int, 0 ≤ i → i < k → S 33 i = b → ¬ (S 34 i = 1 ∨ (S 34 i = 2 ∧ S 5 0 + 1 + S 8 l ≤ S 38 i))
  | 0 => ⟨fun _ i i0 i1 => by omega, fun _ => rfl⟩
  | k + 1 => by
    have ih := mayk_iff (S := S) (b := b) (l := l) k
    simp only [mayk, Bool.and_eq_true, ih]
    constructor
    · rintro ⟨q1, q2⟩ i i0 i1 i2
      by_cases e : i = k
      · subst e
        simp [i2] at q2
        rintro (w | w)
        · exact q2.1 w
        · have := q2.2
          omega
      · exact q1 i i0 (by push_cast at i1; omega) i2
    · intro q
      refine ⟨fun i i0 i1 => q i i0 (by push_cast; omega), ?_⟩
      have h1 := q k (by omega) (by push_cast; omega)
      by_cases e : S 33 k = b
      · have h2 := h1 e
        simp only [not_or, not_and] at h2
        simp only [e, decide_true, Bool.true_and, Bool.not_eq_true', Bool.or_eq_false_iff, decide_eq_false_iff_not, Bool.and_eq_false_imp, decide_eq_true_eq]
        exact h2
      · simp [e]
theorem can_may {S M : Mem} {lo : Int → Int} {x B b l : Int} (h : AI S lo x) (hR : RM S M B) : canP M b l (M 47 16) ↔ may S b l = true := by
  have h4 := h.1.2.2.1
  unfold canP lateP may
  rw [mayk_iff, hR.1.2.2.2.2.2.2.2.2.2.2.2.2.1, hR.1.2.2.2.2.2.2.2.2.2.2.2.2.2.1, hR.1.2.1, hR.1.2.2.2.2.2.2.2.2.2.2.2.2.2.2.2.2.2.1, hR.2.1.1, hR.2.1.2.2.2.2.2.2.1, show (((S 4 0).toNat : Nat) : Int) = S 4 0 by omega]
theorem bkOn_loop {d : Nat} {M : Mem} {l : Int} {P : PV → Mem → Prop} (h : MR M) (hl : rng l) (hP : P (vI (ct (is_ (M 52) l) 8)) M) : ∀ (n k : Nat), k + n = 8 → gV mX7_bucketsOn d P 7 [vR 47, vI l, vI (ct (is_ (M 52) l) k), vI k] [vI 8, vI k] M
  | 0, k, hk => by
    have e : k = 8 := by omega
    subst e
    refine gV_it rfl (by unfold rng; omega) (show (8 : Int) ≤ _ by omega) ?_
    repeat (refine gV_s rfl (by first | exact trivial | omega) ?_)
    exact gV_ret rfl trivial hP
  | n + 1, k, hk => by
    have hb := (h.2.2.2.2.2.2.2.2.2.2.1 k).1
    have ih := bkOn_loop (d := d) h hl hP n (k + 1) (by omega)
    rw [ct_s _ k] at ih
    unfold rng at hl
    refine gV_in rfl (by unfold rng; omega) (show ¬ (8 : Int) ≤ _ by omega) ?_
    repeat (refine gV_s rfl (by first | exact trivial | omega) ?_)
    refine gV_i rfl (by unfold rng; omega) (fun h1 => ?_) (fun h1 => ?_)
    · rw [if_pos (by simpa using h1)] at ih
      repeat (refine gV_s rfl (by first | exact trivial | omega) ?_)
      exact ih
    · rw [if_neg (by simpa using h1)] at ih
      repeat (refine gV_s rfl (by first | exact trivial | omega) ?_)
      exact ih
theorem ok_bucketsOn {d : Nat} {M : Mem} {l : Int} {P : PV → Mem → Prop} (h : MR M) (hl : rng l) (hP : P (vI (ct (is_ (M 52) l) 8)) M) : gOk mX7_bucketsOn d [vR 47, vI l] M P := by
  refine gOk_of mX7_bucketsOn_ok (by simp) (Nat.le_of_ble_eq_true rfl) ?_
  repeat (refine gV_s rfl (by first | exact trivial | omega) ?_)
  exact bkOn_loop h hl hP 8 0 rfl
theorem noneUp_loop {d : Nat} {M : Mem} (h : MR M) : ∀ (n k : Nat) (z : Int), (k : Int) + n = M 47 1 → (z = 0 ∨ z = 1) → (z = 1 ↔ ∀ j, 0 ≤ j → j < (k : Int) → M 50 j = 0) → gV mX7_noneUp d (yn (∀ j, 0 ≤ j → j < M 47 1 → M 50 j = 0) M) 9 [vR 47, vI z, vI k] [vI (M 47 1), vI k] M
  | 0, k, z, hk, hz1, hz => by
    have hn := h.2.1
    refine gV_it rfl (by clear hz; unfold rng; omega) (by clear hz; omega) ?_
    repeat (refine gV_s rfl (by first | exact trivial | omega) ?_)
    rw [show (k : Int) = M 47 1 by omega] at hz
    rcases hz1 with rfl | rfl
    · exact gV_ret rfl (Or.inl rfl) ⟨rfl, Or.inr ⟨fun q => by have := hz.mpr q; omega, rfl⟩⟩
    · exact gV_ret rfl (Or.inr rfl) ⟨rfl, Or.inl ⟨hz.mp rfl, rfl⟩⟩
  | n + 1, k, z, hk, hz1, hz => by
    have hn := h.2.1
    have hu := (h.2.2.2.2.2.2.2.2.2.2.2.1 k).2.2
    have ih := fun z a b => noneUp_loop (d := d) h n (k + 1) z (by push_cast; omega) a b
    have step : (∀ j, 0 ≤ j → j < ((k + 1 : Nat) : Int) → M 50 j = 0) ↔ (∀ j, 0 ≤ j → j < (k : Int) → M 50 j = 0) ∧ M 50 k = 0 := by
      constructor
      · intro q
        exact ⟨fun j j0 j1 => q j j0 (by push_cast; omega), q k (by omega) (by push_cast; omega)⟩
      · rintro ⟨q1, q2⟩ j j0 j1
        by_cases e : j = k
        · subst e; exact q2
        · exact q1 j j0 (by push_cast at j1; omega)
    rw [step] at ih
    refine gV_in rfl (by clear hz step ih; unfold rng; omega) (by clear hz step ih; omega) ?_
    repeat (refine gV_s rfl (by first | exact trivial | omega) ?_)
    refine gV_i rfl (by clear hz step ih; unfold rng; omega) (fun h1 => ?_) (fun h1 => ?_)
    · repeat (refine gV_s rfl (by first | exact trivial | omega) ?_)
      exact ih 0 (Or.inl rfl) ⟨fun q => by omega, fun q => by have := hz.mpr q.1; omega⟩
    · have hz2 : z = 1 := by rcases hz1 with q | q; exact absurd q h1; exact q
      have hq := hz.mp hz2
      repeat (refine gV_s rfl (by first | exact trivial | omega) ?_)
      refine gV_i rfl (by clear hz step ih; unfold rng; omega) (fun h2 => ?_) (fun h2 => ?_)
      · repeat (refine gV_s rfl (by first | exact trivial | omega) ?_)
        exact ih 1 (Or.inr rfl) ⟨fun _ => ⟨hq, h2⟩, fun _ => rfl⟩
      · repeat (refine gV_s rfl (by first | exact trivial | omega) ?_)
        exact ih 0 (Or.inl rfl) ⟨fun q => by omega, fun q => absurd q.2 h2⟩
theorem ok_noneUp {d : Nat} {M : Mem} (h : MR M) : gOk mX7_noneUp d [vR 47] M (yn (∀ j, 0 ≤ j → j < M 47 1 → M 50 j = 0) M) := by
  have hn := h.2.1
  refine gOk_of mX7_noneUp_ok (by simp) (Nat.le_of_ble_eq_true rfl) ?_
  repeat (refine gV_s rfl (by first | exact trivial | omega) ?_)
  exact noneUp_loop h (M 47 1).toNat 0 1 (by omega) (Or.inr rfl) ⟨fun _ j j0 j1 => by omega, fun _ => rfl⟩
