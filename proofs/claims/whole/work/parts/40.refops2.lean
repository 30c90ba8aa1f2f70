/-! The reference: sending, moving, dropping a move. -/
def mNew (M : Mem) (i f b p t : Int) : Mem := mw (mw (mw (mw (mw (mw (mw (mw (mw (mw M 59 i p) 58 i f) 60 i b) 61 i 0) 62 i (-6)) 63 i t) 64 i (-6)) 65 i (-6)) 66 i (-6)) 47 16 (i + 1)
theorem aPost0_o (S : Mem) (f : Int) {r : Nat} (h : r ≠ 4) (h2 : r < 26 ∨ r = 40) : aPost0 S f r = S r := by
  unfold aPost0 aAdd
  rw [mw_rn _ _ _ (by omega), mw_rn _ _ _ (by omega), mw_rn _ _ _ (by omega), mw_rn _ _ _ (by omega), mw_rn _ _ _ (by omega), mw_rn _ _ _ (by omega), mw_rn _ _ _ (by omega), mw_rn _ _ _ (by omega), mw_rn _ _ _ (by omega), mw_rn _ _ _ (by omega), mw_rn _ _ _ (by omega), mw_rn _ _ _ (by omega)]
theorem RM_new {S M : Mem} {B f : Int} (hR : RM S M B) : RM (aPost0 S f) (mNew M (S 4 0) f (bkO S f) (S 26 f) (S 5 0)) B := by
  obtain ⟨⟨e48, e49, e50, e51, e52, e53, e54, e55, e56, e57, e58, e59, e60, e61, e62, e63, e64, e65, e66, e69, e70⟩, ⟨t1, t2, t3, t4, t5, t6, t7, t8, t9⟩, hT⟩ := hR
  refine ⟨?_, ?_, ?_⟩
  · unfold Rr aPost0 aAdd mNew
    simp only [mw_rs, mw_rn, ne_eq, not_false_eq_true, Nat.reduceEqDiff, Nat.reduceLT, Nat.reduceLeDiff, true_or, or_true, forall_const]
    simp only [e48, e49, e50, e51, e52, e53, e54, e55, e56, e57, e58, e59, e60, e61, e62, e63, e64, e65, e66, e69, e70, and_self]
  · unfold Rs aPost0 aAdd mNew
    simp only [mw_rs, mw_rn, ne_eq, not_false_eq_true, Nat.reduceEqDiff, Nat.reduceLT, Nat.reduceLeDiff, true_or, or_true, forall_const, up1_e]
    simp [t1, t2, t3, t4, t5, t6, t7, t8, t9]
  · rw [aPost0_o S f (by decide) (by decide), aPost0_o S f (by decide) (by decide), aPost0_o S f (by decide) (by decide)]
    unfold mNew
    simp only [mw_rs, mw_rn, ne_eq, not_false_eq_true, Nat.reduceEqDiff, Nat.reduceLT, Nat.reduceLeDiff, true_or, or_true, forall_const]
    rw [up1_n _ _ (by decide)]
    exact Rt_rw hT (fun k p k0 k4 => by
      show aPost0 S f (11 + k.toNat) p = _
      rw [aPost0_o S f (by omega) (by omega)])
theorem bk_send {S : Mem} {lo : Int → Int} {f : Int} (h : AI S lo (-1)) : bkO (aPost S f) f = bkO S f := by
  unfold bkO
  rw [aPost_r h (by omega), aPost_r h (by omega)]
theorem bk_sends {S : Mem} {lo : Int → Int} {f : Int} (h : AI S lo (-1)) (f0 : 0 ≤ f) (f1 : f < S 3 0) : ∀ k : Nat, S 4 0 + k ≤ 400 → bkO (aSend S f k) f = bkO S f
  | 0, _ => rfl
  | k + 1, hk => by
    have i1 := (AI_send h f0 f1 k (by omega)).1
    rw [aSend, bk_send i1, bk_sends h f0 f1 k (by omega)]
theorem msend_loop {d : Nat} {S M0 : Mem} {f x B : Int} {P : PV → Mem → Prop} (h : NI S) (f0 : 0 ≤ f) (f1 : f < S 3 0) (hx : 1 ≤ x ∧ x ≤ 50) (hc : S 4 0 + x ≤ 400) (hB : B + 1700000 ≤ 2000000000) (hP : ∀ M', RM (aSend S f x.toNat) M' (B + 50) → Fr M0 M' → P (vI (S 4 0 + x)) M') :
    ∀ (n k : Nat) (M : Mem) (z5 z6 : PV), (k : Int) + n = x → RM (aSend S f k) M (B + k) → Fr M0 M → gV mX7_send (d + 1) P 50 [vR 47, vI f, vI x, vI (bkO S f), vI k, z5, z6] [vI x, vI k] M := by
  intro n
  induction n with
  | zero =>
    intro k M z5 z6 hk hR hF
    have e : k = x.toNat := by omega
    subst e
    obtain ⟨i1, i2, i3, i4⟩ := AI_send h f0 f1 x.toNat (by omega)
    refine gV_it rfl (by unfold rng; omega) (by omega) ?_
    repeat (refine gV_s rfl (by first | exact trivial | omega) ?_)
    rw [hR.s16, i2, show ((x.toNat : Nat) : Int) = x by omega]
    exact gV_ret rfl trivial (hP M (RM_B hR (by omega)) hF)
  | succ n ih =>
    intro k M z5 z6 hk hR hF
    obtain ⟨i1, i2, i3, i4⟩ := AI_send h f0 f1 k (by omega)
    have hFc := i1.1.2.1
    have hF3 := h.1.2.1
    have hL := i1.1.1
    have h4 := i1.1.2.2.1
    have eb := bk_sends h f0 f1 k (by omega)
    obtain ⟨b0, b8⟩ := bkO_in i1 f0 (by rw [i3] at hFc; omega)
    rw [eb] at b0 b8
    have hb := i1.2.2.1 (bkO S f)
    have hbk := AI_bk i1 (bkO S f)
    have hMM := MR_of i1 hR (by omega)
    have e16 : M 47 16 = aSend S f k 4 0 := hR.s16
    have e0 : M 47 0 = aSend S f k 5 0 := hR.s0
    have e54 : M 54 (bkO S f) = aSend S f k 21 (bkO S f) := by rw [hR.e54]
    have e52 : M 52 (bkO S f) = aSend S f k 19 (bkO S f) := by rw [hR.e52]
    have ehd : ct (cHd M (bkO S f)) (M 47 16).toNat = aSend S f k 22 (bkO S f) := by
      rw [i1.2.2.2.2.2.2.2.2.1 _ b0 b8, e16]
      exact ct_cong (fun j _ _ => by unfold cHd; rw [hR.e61, hR.e60])
    have efl : ct (cFl M f (-1)) (M 47 16).toNat = aSend S f k 26 f := by
      rw [(i1.2.2.2.2.2.2.2.2.2.1 f f0 (by rw [i3] at hFc; omega)).1, e16]
      exact ct_cong (fun j _ _ => by unfold cFl; rw [hR.e58]; simp)
    have hhd : 0 ≤ aSend S f k 22 (bkO S f) ∧ aSend S f k 22 (bkO S f) ≤ 400 := by
      have := i1.2.2.2.2.2.2.2.2.1 _ b0 b8
      have nn := ct_nn (fun j => decide (aSend S f k 34 j = 0 ∧ aSend S f k 33 j = bkO S f)) (aSend S f k 4 0).toNat
      omega
    have step : aSend S f (k + 1) = if aSend S f k 21 (bkO S f) ≠ 0 ∨ aSend S f k 19 (bkO S f) = -6 ∨ 0 < aSend S f k 22 (bkO S f) then aNew (aSend S f k) f (bkO S f) else aEnq (aPost0 (aSend S f k) f) (aSend S f k 4 0) (aSend S f k 19 (bkO S f)) := by
      rw [aSend]
      unfold aPost
      rw [eb]
    have hRn := RM_new (f := f) hR
    rw [eb] at hRn
    have nxt : ∀ (M' : Mem) (z5 z6 : PV), RM (aSend S f (k + 1)) M' (B + k + 1) → Fr M0 M' → gV mX7_send (d + 1) P 205 [vR 47, vI f, vI x, vI (bkO S f), vI k, z5, z6] [] M' := by
      intro M' z5 z6 hR' hF'
      repeat (refine gV_s rfl (by first | exact trivial | omega) ?_)
      exact ih (k + 1) M' _ _ (by push_cast; omega) (by rw [show B + ((k + 1 : Nat) : Int) = B + k + 1 by push_cast; omega]; exact hR') hF'
    have hFn : Fr M0 (mNew M (aSend S f k 4 0) f (bkO S f) (aSend S f k 26 f) (aSend S f k 5 0)) := Fr.w (Fr.w (Fr.w (Fr.w (Fr.w (Fr.w (Fr.w (Fr.w (Fr.w (Fr.w hF (by decide)) (by decide)) (by decide)) (by decide)) (by decide)) (by decide)) (by decide)) (by decide)) (by decide)) (by decide)
    have tail : ∀ (v : Int), ((v = 1 ∧ (aSend S f k 21 (bkO S f) ≠ 0 ∨ aSend S f k 19 (bkO S f) = -6 ∨ 0 < aSend S f k 22 (bkO S f))) ∨ (v = 0 ∧ ¬ (aSend S f k 21 (bkO S f) ≠ 0 ∨ aSend S f k 19 (bkO S f) = -6 ∨ 0 < aSend S f k 22 (bkO S f)))) → gV mX7_send (d + 1) P 86 [vR 47, vI f, vI x, vI (bkO S f), vI k, z5, z6] [vI v] M := by
      intro v hv
      repeat (refine gV_s rfl (by first | exact trivial | omega) ?_)
      refine gV_cV (ok_ofFlowIn (d := d) (M := M) (f := f) (s := -1) (P := fun r M' => r = vI (aSend S f k 26 f) ∧ M' = M) hMM (by unfold rng; omega) (by unfold rng; omega) ⟨by rw [efl], rfl⟩) mX7_ofFlowIn_ok sX7_X7_ofFlowIn rfl rfl rfl rfl rfl rfl ?_
      rintro r M' ⟨rfl, rfl⟩
      rw [e16]
      repeat (refine gV_s rfl (by first | exact trivial | omega) ?_)
      simp only [mw_rn, ne_eq, not_false_eq_true, Nat.reduceEqDiff, Nat.reduceLT, Nat.reduceLeDiff, true_or, or_true, forall_const]
      rw [e16, e0]
      rcases hv with ⟨rfl, hv⟩ | ⟨rfl, hv⟩
      · refine gV_in rfl (by unfold rng; omega) (by omega) ?_
        refine nxt _ _ _ ?_ hFn
        rw [step, if_pos hv]
        exact RM_B (RM_S hRn (fun r hr => by
          show aNew (aSend S f k) f (bkO S f) r = _
          unfold aNew aPost0
          rw [mw_rn _ _ _ (by rintro rfl; cases hr), eb])) (by omega)
      · have hon : aSend S f k 19 (bkO S f) ≠ -6 := fun q => hv (Or.inr (Or.inl q))
        have hl4 : 0 ≤ aSend S f k 19 (bkO S f) ∧ aSend S f k 19 (bkO S f) < 4 := by omega
        refine gV_it rfl (by unfold rng; omega) rfl ?_
        repeat (refine gV_s rfl (by first | exact trivial | omega) ?_)
        simp only [mw_rn, ne_eq, not_false_eq_true, Nat.reduceEqDiff, Nat.reduceLT, Nat.reduceLeDiff, true_or, or_true, forall_const]
        rw [e52]
        refine gV_cV (ok_queue (d := d) (M := mNew M' (aSend S f k 4 0) f (bkO S f) (aSend S f k 26 f) (aSend S f k 5 0)) (i := aSend S f k 4 0) (l := aSend S f k 19 (bkO S f)) (P := fun r M2 => r = none ∧ M2 = mQueue (mNew M' (aSend S f k 4 0) f (bkO S f) (aSend S f k 26 f) (aSend S f k 5 0)) (aSend S f k 4 0) (aSend S f k 19 (bkO S f))) (by omega) (by omega) ⟨rfl, rfl⟩) mX7_queue_ok sX7_X7_queue rfl rfl rfl rfl rfl rfl ?_
        rintro r M2 ⟨rfl, rfl⟩
        refine nxt _ _ _ ?_ (Fr.w (Fr.w (Fr.w (Fr.w hFn (by decide)) (by decide)) (by decide)) (by decide))
        rw [step, if_neg hv]
        refine RM_enq hRn hl4.1 hl4.2 ?_ ?_ ?_
        · rw [aPost0_o _ f (by decide) (by decide), aPost0_o _ f (by decide) (by decide), aPost0_o _ f (by decide) (by decide)]
          exact AI_ord i1
        · rw [aPost0_o _ f (by decide) (by decide)]
          intro k' p a1 a2 a3 a4 e
          have e2 : qr (aPost0 (aSend S f k) f) k' p = qr (aSend S f k) k' p := by
            show aPost0 (aSend S f k) f (11 + k'.toNat) p = _
            rw [aPost0_o _ f (by omega) (by omega)]
          rw [e2] at e
          have := ((i1.2.2.2.2.2.2.2.2.2.2.2.1 k' a1 a2).2.1 p a3 a4).1.2.1
          rw [show (qr (aSend S f k)) k' p = aSend S f k 4 0 from e] at this
          omega
        · have : aPost0 (aSend S f k) f 34 (aSend S f k 4 0) = 0 := by
            unfold aPost0 aAdd
            simp only [mw_rs, mw_rn, ne_eq, not_false_eq_true, Nat.reduceEqDiff, Nat.reduceLT, Nat.reduceLeDiff, true_or, or_true, forall_const, up1_s]
          rw [this]
          decide
    refine gV_in rfl (by unfold rng; omega) (by omega) ?_
    repeat (refine gV_s rfl (by first | exact trivial | omega) ?_)
    rw [e54]
    refine gV_i rfl (by unfold rng; omega) (fun h1 => ?_) (fun h1 => ?_)
    · repeat (refine gV_s rfl (by first | exact trivial | omega) ?_)
      rw [e52]
      refine gV_i rfl (by unfold rng; omega) (fun h2 => ?_) (fun h2 => ?_)
      · refine gV_s rfl trivial (gV_s rfl trivial ?_)
        exact tail 1 (Or.inl ⟨rfl, Or.inr (Or.inl h2)⟩)
      · repeat (refine gV_s rfl (by first | exact trivial | omega) ?_)
        refine gV_cV (ok_held (d := d) (M := M) (b := bkO S f) (P := fun r M' => r = vI (aSend S f k 22 (bkO S f)) ∧ M' = M) hMM (by unfold rng; omega) ⟨by rw [ehd], rfl⟩) mX7_held_ok sX7_X7_held rfl rfl rfl rfl rfl rfl ?_
        rintro r M' ⟨rfl, rfl⟩
        refine gV_i rfl (by unfold rng; omega) (fun h3 => ?_) (fun h3 => ?_)
        · refine gV_s rfl trivial ?_
          exact tail 0 (Or.inr ⟨rfl, by omega⟩)
        · refine gV_s rfl trivial (gV_s rfl trivial ?_)
          exact tail 1 (Or.inl ⟨rfl, Or.inr (Or.inr (by omega))⟩)
    · refine gV_s rfl trivial (gV_s rfl trivial ?_)
      exact tail 1 (Or.inl ⟨rfl, Or.inl h1⟩)
theorem ok_mSend {d : Nat} {S M : Mem} {B f x : Int} (h : NI S) (hf : rng f) (hx : rng x) (hR : RM S M B) (hB : B + 1700000 ≤ 2000000000) : gOk mX7_send (d + 2) [vR 47, vI f, vI x] M (dM (oSend S f x) M B) := by
  have hMM := MR_of h hR (by omega)
  have hF := h.1.2.1
  have hn := h.1.2.2.1
  refine gOk_of mX7_send_ok (by simp) (Nat.le_of_ble_eq_true rfl) ?_
  repeat (refine gV_s rfl (by first | exact trivial | omega) ?_)
  refine gV_cV (ok_isFlow (d := d) (M := M) hMM hf) mX7_isFlow_ok sX7_X7_isFlow rfl rfl rfl rfl rfl rfl ?_
  rintro r M' ⟨rfl, ⟨h1, rfl⟩ | ⟨h1, rfl⟩⟩
  · rw [hR.s10] at h1
    refine gV_in rfl (by unfold rng; omega) (by omega) ?_
    repeat (refine gV_s rfl (by first | exact trivial | omega) ?_)
    refine gV_cS (ok_in (d := d + 1) (M := M') hx (by unfold rng; omega) (by unfold rng; omega)) mX7_in_ok sX7_X7_in rfl rfl rfl rfl ?_
    rintro r M'' ⟨rfl, ⟨h2, rfl⟩ | ⟨h2, rfl⟩⟩
    · refine gV_in rfl (by unfold rng; omega) (by omega) ?_
      repeat (refine gV_s rfl (by first | exact trivial | omega) ?_)
      rw [hR.s16]
      refine gV_i rfl (by unfold rng; omega) (fun h3 => ?_) (fun h3 => ?_)
      · repeat (refine gV_s rfl (by first | exact trivial | omega) ?_)
        refine gV_cV (ok_bucketNow (d := d + 1) (M := M'') (f := f) (P := fun r M' => r = vI (bkO S f) ∧ M' = M'') hMM h1.1 (by omega) ⟨by rw [bkM_eq h hR], rfl⟩) mX7_bucketNow_ok sX7_X7_bucketNow rfl rfl rfl rfl rfl rfl ?_
        rintro r M4 ⟨rfl, rfl⟩
        repeat (refine gV_s rfl (by first | exact trivial | omega) ?_)
        refine msend_loop (d := d + 1) (B := B) (M0 := M4) h h1.1 h1.2 h2 (by omega) hB (fun M2 a b => dMP (by unfold oSend; rw [if_pos h1, if_pos h2, if_neg (by omega)]) (RM_B a (by omega)) b) x.toNat 0 M4 none none (by omega) (RM_B hR (by omega)) Fr.rf
      · repeat (refine gV_s rfl (by first | exact trivial | omega) ?_)
        exact gV_ret rfl trivial (dM0 (by unfold oSend; rw [if_pos h1, if_pos h2, if_pos (by omega)]) hR)
    · refine gV_it rfl (by unfold rng; omega) rfl ?_
      repeat (refine gV_s rfl (by first | exact trivial | omega) ?_)
      exact gV_ret rfl trivial (dM0 (by unfold oSend; rw [if_pos h1, if_neg h2]) hR)
  · rw [hR.s10] at h1
    refine gV_it rfl (by unfold rng; omega) rfl ?_
    repeat (refine gV_s rfl (by first | exact trivial | omega) ?_)
    exact gV_ret rfl trivial (dM0 (by unfold oSend; rw [if_neg h1]) hR)
theorem ok_mDrop {d : Nat} {S M : Mem} {B b : Int} (h : NI S) (hb : rng b) (hR : RM S M B) : gOk mX7_drop (d + 2) [vR 47, vI b] M (dM (oDrop S b) M B) := by
  have hbk := AI_bk h b
  have hJ := h.2.2.1 b
  have e53 : M 53 b = S 20 b := by rw [hR.e53]
  refine gOk_of mX7_drop_ok (by simp) (Nat.le_of_ble_eq_true rfl) ?_
  repeat (refine gV_s rfl (by first | exact trivial | omega) ?_)
  refine gV_cS (ok_isBucket (d := d) (M := M) hb) mX7_isBucket_ok sX7_X7_isBucket rfl rfl rfl rfl ?_
  rintro r M' ⟨rfl, ⟨h1, rfl⟩ | ⟨h1, rfl⟩⟩
  · refine gV_in rfl (by unfold rng; omega) (by omega) ?_
    repeat (refine gV_s rfl (by first | exact trivial | omega) ?_)
    rw [e53]
    refine gV_i rfl (by unfold rng; omega) (fun h2 => ?_) (fun h2 => ?_)
    · have hon : S 19 b = -6 ∨ S 9 (S 19 b) = 1 := by
        rcases hJ.1 with q | ⟨q1, q2, q3 | q3⟩
        · exact Or.inl q
        · exact Or.inr q3
        · omega
      have hE1 : Ex [19, 20, 21, 23] (mw (mw S 20 b (-6)) 21 b 0) S := Ex.skip1 (Ex.skip1 Ex.rf (by decide)) (by decide)
      repeat (refine gV_s rfl (by first | exact trivial | omega) ?_)
      refine gV_cV (ok_lets (d := d) (b := b) (B := B) (S := mw (mw S 20 b (-6)) 21 b 0) h hE1 h1.1 h1.2 (by rw [mw_rn _ _ _ (by decide), mw_rn _ _ _ (by decide)]; exact hon) (RM_w (RM_w hR (by simp)) (by simp))) mX7_lets_ok sX7_X7_lets rfl rfl rfl rfl rfl rfl ?_
      rintro r M2 ⟨rfl, hR2, hF2⟩
      refine gV_ret rfl trivial (dMP (by unfold oDrop; rw [if_pos h1, if_neg (by omega)]; unfold aCancel; rw [rel_lets]) (RM_B hR2 (by omega)) (Fr.tr (Fr.w (Fr.w Fr.rf (by decide)) (by decide)) hF2))
    · repeat (refine gV_s rfl (by first | exact trivial | omega) ?_)
      exact gV_ret rfl trivial (dM0 (by unfold oDrop; rw [if_pos h1, if_pos (by omega)]) hR)
  · refine gV_it rfl (by unfold rng; omega) rfl ?_
    repeat (refine gV_s rfl (by first | exact trivial | omega) ?_)
    exact gV_ret rfl trivial (dM0 (by unfold oDrop; rw [if_neg h1]) hR)
theorem move2_eq {S : Mem} {lo : Int → Int} {b l : Int} (h : AI S lo (-1)) (b0 : 0 ≤ b) (l0 : 0 ≤ l) (l4 : l < 4) (hon : S 19 b ≠ -6) (ht : S 20 b = -6) (hh : S 21 b = 0) : aReach (aMv0 S b l 2) b l = mw (mw S 19 b l) 23 b (S 23 b + 1) := by
  have hfree := no_held h hh hon
  unfold aReach
  rw [rel_lets]
  have e33 : mw (aRch0 (aMv0 S b l 2) b l) 21 b 0 33 = S 33 := by rw [mw_rn _ _ _ (by decide), aRch0_o _ _ _ (by decide) (by decide) (by decide)]; unfold aMv0; simp only [mw_rn, ne_eq, not_false_eq_true, Nat.reduceEqDiff, Nat.reduceLT, Nat.reduceLeDiff, true_or, or_true, forall_const]
  have e34 : mw (aRch0 (aMv0 S b l 2) b l) 21 b 0 34 = S 34 := by rw [mw_rn _ _ _ (by decide), aRch0_o _ _ _ (by decide) (by decide) (by decide)]; unfold aMv0; simp only [mw_rn, ne_eq, not_false_eq_true, Nat.reduceEqDiff, Nat.reduceLT, Nat.reduceLeDiff, true_or, or_true, forall_const]
  have e4 : mw (aRch0 (aMv0 S b l 2) b l) 21 b 0 4 = S 4 := by rw [mw_rn _ _ _ (by decide), aRch0_o _ _ _ (by decide) (by decide) (by decide)]; unfold aMv0; simp only [mw_rn, ne_eq, not_false_eq_true, Nat.reduceEqDiff, Nat.reduceLT, Nat.reduceLeDiff, true_or, or_true, forall_const]
  have h4 := h.1.2.2.1
  have e : aLetsO (mw (aRch0 (aMv0 S b l 2) b l) 21 b 0) b = mw (aRch0 (aMv0 S b l 2) b l) 21 b 0 := by
    unfold aLetsO
    split
    · rfl
    · refine aLets_none _ (fun i i0 i1 q => ?_)
      rw [e33, e34] at q
      rw [e4] at i1
      exact hfree i i0 (by omega) q.1 q.2
  rw [e]
  have c20 : aMv0 S b l 2 20 b = l := by unfold aMv0; simp only [mw_rs, mw_rn, ne_eq, not_false_eq_true, Nat.reduceEqDiff, Nat.reduceLT, Nat.reduceLeDiff, true_or, or_true, forall_const, up1_s]
  have c23 : aMv0 S b l 2 23 b = S 23 b := by unfold aMv0; simp only [mw_rn, ne_eq, not_false_eq_true, Nat.reduceEqDiff, Nat.reduceLT, Nat.reduceLeDiff, true_or, or_true, forall_const]
  unfold aRch0
  rw [c20, if_neg (by omega), c23]
  unfold aMv0
  rw [if_neg (by decide)]
  refine mem_ext (fun r => ?_)
  by_cases r21 : r = 21
  · subst r21
    simp only [mw_rs, mw_rn, ne_eq, not_false_eq_true, Nat.reduceEqDiff, Nat.reduceLT, Nat.reduceLeDiff, true_or, or_true, forall_const, up1_up1]
    rw [← hh, up1_id]
  · by_cases r20 : r = 20
    · subst r20
      simp only [mw_rs, mw_rn, ne_eq, not_false_eq_true, Nat.reduceEqDiff, Nat.reduceLT, Nat.reduceLeDiff, true_or, or_true, forall_const, up1_up1]
      rw [← ht, up1_id]
    · by_cases r19 : r = 19
      · subst r19
        simp only [mw_rs, mw_rn, ne_eq, not_false_eq_true, Nat.reduceEqDiff, Nat.reduceLT, Nat.reduceLeDiff, true_or, or_true, forall_const]
      · by_cases r23 : r = 23
        · subst r23
          simp only [mw_rs, mw_rn, ne_eq, not_false_eq_true, Nat.reduceEqDiff, Nat.reduceLT, Nat.reduceLeDiff, true_or, or_true, forall_const]
        · rw [mw_rn _ _ _ r21, mw_rn _ _ _ r19, mw_rn _ _ _ r20, mw_rn _ _ _ r23, mw_rn _ _ _ r21, mw_rn _ _ _ r20, mw_rn _ _ _ r23, mw_rn _ _ _ r19]
theorem ok_mMove {d : Nat} {S M : Mem} {B b l how : Int} (h : NI S) (hb : rng b) (hl : rng l) (hh : rng how) (hR : RM S M B) (hB : B + 1700000 ≤ 2000000000) : gOk mX7_move (d + 3) [vR 47, vI b, vI l, vI how] M (dM (oMove S b l how) M B) := by
  have hMM := MR_of h hR (by omega)
  have hL := h.1.1
  have hno := h.1.2.2.2.2.1
  have e52 : M 52 b = S 19 b := by rw [hR.e52]
  have e53 : M 53 b = S 20 b := by rw [hR.e53]
  have e54 : M 54 b = S 21 b := by rw [hR.e54]
  have e50 : M 50 l = S 9 l := by rw [hR.e50]
  have e15 : M 47 15 = S 5 1 := hR.s15
  refine gOk_of mX7_move_ok (by simp) (Nat.le_of_ble_eq_true rfl) ?_
  repeat (refine gV_s rfl (by first | exact trivial | omega) ?_)
  refine gV_cS (ok_isBucket (d := d + 1) (M := M) hb) mX7_isBucket_ok sX7_X7_isBucket rfl rfl rfl rfl ?_
  rintro r M' ⟨rfl, ⟨h1, rfl⟩ | ⟨h1, rfl⟩⟩
  · refine gV_in rfl (by unfold rng; omega) (by omega) ?_
    repeat (refine gV_s rfl (by first | exact trivial | omega) ?_)
    refine gV_cV (ok_isLink (d := d + 1) (M := M') hMM hl) mX7_isLink_ok sX7_X7_isLink rfl rfl rfl rfl rfl rfl ?_
    rintro r M'' ⟨rfl, ⟨h2, rfl⟩ | ⟨h2, rfl⟩⟩
    · rw [hR.s1] at h2
      refine gV_in rfl (by unfold rng; omega) (by omega) ?_
      repeat (refine gV_s rfl (by first | exact trivial | omega) ?_)
      refine gV_cS (ok_in (d := d + 2) (M := M'') hh (by unfold rng; omega) (by unfold rng; omega)) mX7_in_ok sX7_X7_in rfl rfl rfl rfl ?_
      rintro r M' ⟨rfl, ⟨h3, rfl⟩ | ⟨h3, rfl⟩⟩
      · refine gV_in rfl (by unfold rng; omega) (by omega) ?_
        have hbk := AI_bk h b
        have hJ := h.2.2.1 b
        have hup := h.2.1.2.1 l
        have e0 : oMove S b l how = (if S 19 b = -6 ∨ S 20 b ≠ -6 ∨ S 21 b ≠ 0 then (-3, S) else (if S 9 l = 0 ∨ S 19 b = l ∨ (how = 2 ∧ S 5 1 = 0) then (-5, S) else (if aMove S b l how 20 b = -6 then 1 else 0, aMove S b l how))) := by unfold oMove; rw [if_pos ⟨h1, h2⟩, if_pos h3]
        rw [e0]
        repeat (refine gV_s rfl (by first | exact trivial | omega) ?_)
        rw [e52]
        refine gV_i rfl (by unfold rng; omega) (fun h4 => ?_) (fun h4 => ?_)
        · repeat (refine gV_s rfl (by first | exact trivial | omega) ?_)
          exact gV_ret rfl trivial (dM0 (by rw [if_pos (Or.inl h4)]) hR)
        · repeat (refine gV_s rfl (by first | exact trivial | omega) ?_)
          rw [e53]
          refine gV_i rfl (by unfold rng; omega) (fun h5 => ?_) (fun h5 => ?_)
          · repeat (refine gV_s rfl (by first | exact trivial | omega) ?_)
            exact gV_ret rfl trivial (dM0 (by rw [if_pos (Or.inr (Or.inl (by omega)))]) hR)
          · repeat (refine gV_s rfl (by first | exact trivial | omega) ?_)
            rw [e54]
            refine gV_i rfl (by unfold rng; omega) (fun h6 => ?_) (fun h6 => ?_)
            · have ht : S 20 b = -6 := by omega
              rw [if_neg (by omega)]
              repeat (refine gV_s rfl (by first | exact trivial | omega) ?_)
              rw [e50]
              refine gV_i rfl (by unfold rng; omega) (fun h7 => ?_) (fun h7 => ?_)
              · repeat (refine gV_s rfl (by first | exact trivial | omega) ?_)
                exact gV_ret rfl trivial (dM0 (by rw [if_pos (Or.inl h7)]) hR)
              · have hu : S 9 l = 1 := by omega
                repeat (refine gV_s rfl (by first | exact trivial | omega) ?_)
                rw [e52]
                refine gV_i rfl (by unfold rng; omega) (fun h8 => ?_) (fun h8 => ?_)
                · repeat (refine gV_s rfl (by first | exact trivial | omega) ?_)
                  exact gV_ret rfl trivial (dM0 (by rw [if_pos (Or.inr (Or.inl h8))]) hR)
                · have h10 := AI_mv0 (how := how) h h1.1 h1.2 hu h4 h8 h6
                  have c20 : aMv0 S b l how 20 b = l := by unfold aMv0; simp only [mw_rs, mw_rn, ne_eq, not_false_eq_true, Nat.reduceEqDiff, Nat.reduceLT, Nat.reduceLeDiff, true_or, or_true, forall_const, up1_s]
                  have c9 : aMv0 S b l how 9 = S 9 := by unfold aMv0; simp only [mw_rn, ne_eq, not_false_eq_true, Nat.reduceEqDiff, Nat.reduceLT, Nat.reduceLeDiff, true_or, or_true, forall_const]
                  have c19 : aMv0 S b l how 19 = S 19 := by unfold aMv0; simp only [mw_rn, ne_eq, not_false_eq_true, Nat.reduceEqDiff, Nat.reduceLT, Nat.reduceLeDiff, true_or, or_true, forall_const]
                  have cg : goal (aMv0 S b l how) b = l := by unfold goal; rw [c20, if_neg (by omega)]
                  have settles : ∀ v : Int, v = (if how = 1 then 1 else 0) → how ≠ 2 → gV mX7_move (d + 3) (dM (if aMove S b l how 20 b = -6 then 1 else 0, aMove S b l how) M' B) 141 [vR 47, vI b, vI l, vI how] [vI v, vI b, vR 54] (mw M' 53 b l) := by
                    intro v hv hne
                    have hR1 : RM (aMv0 S b l how) (mw (mw M' 53 b l) 54 b v) B := by
                      unfold aMv0
                      rw [hv]
                      exact RM_w (RM_w hR (by simp)) (by simp)
                    repeat (refine gV_s rfl (by first | exact trivial | omega) ?_)
                    refine gV_cV (ok_settleM (d := d) (B := B) (b := b) h10 h1.1 h1.2 hR1 (by omega) (by rw [cg]; omega) (by rw [cg, c9, c19]; exact ⟨hu, h4⟩)) mX7_settle_ok sX7_X7_settle rfl rfl rfl rfl rfl rfl ?_
                    rintro r M2 ⟨rfl, hR2, hF2⟩
                    have em : aMove S b l how = aSettle (aMv0 S b l how) b := by unfold aMove; rw [if_neg hne]
                    rw [em]
                    have ev : (if may (aMv0 S b l how) b (goal (aMv0 S b l how) b) = true then (1 : Int) else 0) = (if aSettle (aMv0 S b l how) b 20 b = -6 then 1 else 0) := by
                      by_cases hm : may (aMv0 S b l how) b (goal (aMv0 S b l how) b) = true
                      · rw [if_pos hm, if_pos]
                        unfold aSettle
                        rw [if_pos ⟨by rw [cg]; omega, hm⟩, aReach_20 _ _ _ (by rw [cg]; omega), up1_s]
                      · rw [if_neg hm, if_neg]
                        unfold aSettle
                        rw [if_neg (fun q => hm q.2), c20]
                        omega
                    rw [ev]
                    exact gV_ret rfl trivial (dMP rfl (RM_B hR2 (by omega)) (Fr.tr (Fr.w (Fr.w Fr.rf (by decide)) (by decide)) hF2))
                  have fin : ¬ (how = 2 ∧ S 5 1 = 0) → gV mX7_move (d + 3) (dM (if S 9 l = 0 ∨ S 19 b = l ∨ how = 2 ∧ S 5 1 = 0 then (-5, S) else (if aMove S b l how 20 b = -6 then 1 else 0, aMove S b l how)) M' B) 95 [vR 47, vI b, vI l, vI how] [] M' := by
                    intro h9
                    rw [if_neg (by omega)]
                    repeat (refine gV_s rfl (by first | exact trivial | omega) ?_)
                    refine gV_i rfl (by unfold rng; omega) (fun h11 => ?_) (fun h11 => ?_)
                    · subst h11
                      have em : aMove S b l 2 = mw (mw S 19 b l) 23 b (S 23 b + 1) := by unfold aMove; rw [if_pos rfl, move2_eq h h1.1 h2.1 (by omega) h4 ht h6]
                      rw [em, if_pos (by rw [mw_rn _ _ _ (by decide), mw_rn _ _ _ (by decide)]; exact ht)]
                      repeat (refine gV_s rfl (by first | exact trivial | omega) ?_)
                      simp only [mw_rn, ne_eq, not_false_eq_true, Nat.reduceEqDiff, Nat.reduceLT, Nat.reduceLeDiff, true_or, or_true, forall_const]
                      refine gV_ret rfl trivial (dMP rfl (RM_B ?_ (show B ≤ B + 1700000 by omega)) (Fr.w (Fr.w Fr.rf (by decide)) (by decide)))
                      rw [show M' 55 b = S 23 b by rw [hR.e55]]
                      exact RM_w (RM_w hR (by simp)) (by simp)
                    · repeat (refine gV_s rfl (by first | exact trivial | omega) ?_)
                      refine gV_i rfl (by unfold rng; omega) (fun h12 => ?_) (fun h12 => ?_)
                      · refine gV_s rfl trivial (gV_s rfl trivial ?_)
                        exact settles 1 (by rw [if_pos h12]) h11
                      · refine gV_s rfl trivial ?_
                        exact settles 0 (by rw [if_neg h12]) h11
                  repeat (refine gV_s rfl (by first | exact trivial | omega) ?_)
                  refine gV_i rfl (by unfold rng; omega) (fun h9 => ?_) (fun h9 => ?_)
                  · repeat (refine gV_s rfl (by first | exact trivial | omega) ?_)
                    rw [e15]
                    refine gV_i rfl (by unfold rng; omega) (fun h10 => ?_) (fun h10 => ?_)
                    · repeat (refine gV_s rfl (by first | exact trivial | omega) ?_)
                      exact gV_ret rfl trivial (dM0 (by rw [if_pos (Or.inr (Or.inr ⟨h9, h10⟩))]) hR)
                    · exact fin (by omega)
                  · exact fin (by omega)
            · repeat (refine gV_s rfl (by first | exact trivial | omega) ?_)
              exact gV_ret rfl trivial (dM0 (by rw [if_pos (Or.inr (Or.inr h6))]) hR)
      · refine gV_it rfl (by unfold rng; omega) rfl ?_
        repeat (refine gV_s rfl (by first | exact trivial | omega) ?_)
        exact gV_ret rfl trivial (dM0 (by unfold oMove; rw [if_pos ⟨h1, h2⟩, if_neg h3]) hR)
    · rw [hR.s1] at h2
      refine gV_it rfl (by unfold rng; omega) rfl ?_
      repeat (refine gV_s rfl (by first | exact trivial | omega) ?_)
      exact gV_ret rfl trivial (dM0 (by unfold oMove; rw [if_neg (fun q => h2 q.2)]) hR)
  · refine gV_it rfl (by unfold rng; omega) rfl ?_
    repeat (refine gV_s rfl (by first | exact trivial | omega) ?_)
    exact gV_ret rfl trivial (dM0 (by unfold oMove; rw [if_neg (fun q => h1 q.1)]) hR)
