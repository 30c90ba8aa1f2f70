/-! The reference: rows one by one; held letters let go; a bucket settles. -/
theorem RM.e48 {S M : Mem} {B : Int} (h : RM S M B) : M 48 = S 7 := h.1.1
theorem RM.e49 {S M : Mem} {B : Int} (h : RM S M B) : M 49 = S 8 := h.1.2.1
theorem RM.e50 {S M : Mem} {B : Int} (h : RM S M B) : M 50 = S 9 := h.1.2.2.1
theorem RM.e51 {S M : Mem} {B : Int} (h : RM S M B) : M 51 = S 18 := h.1.2.2.2.1
theorem RM.e52 {S M : Mem} {B : Int} (h : RM S M B) : M 52 = S 19 := h.1.2.2.2.2.1
theorem RM.e53 {S M : Mem} {B : Int} (h : RM S M B) : M 53 = S 20 := h.1.2.2.2.2.2.1
theorem RM.e54 {S M : Mem} {B : Int} (h : RM S M B) : M 54 = S 21 := h.1.2.2.2.2.2.2.1
theorem RM.e55 {S M : Mem} {B : Int} (h : RM S M B) : M 55 = S 23 := h.1.2.2.2.2.2.2.2.1
theorem RM.e56 {S M : Mem} {B : Int} (h : RM S M B) : M 56 = S 24 := h.1.2.2.2.2.2.2.2.2.1
theorem RM.e57 {S M : Mem} {B : Int} (h : RM S M B) : M 57 = S 25 := h.1.2.2.2.2.2.2.2.2.2.1
theorem RM.e58 {S M : Mem} {B : Int} (h : RM S M B) : M 58 = S 31 := h.1.2.2.2.2.2.2.2.2.2.2.1
theorem RM.e59 {S M : Mem} {B : Int} (h : RM S M B) : M 59 = S 32 := h.1.2.2.2.2.2.2.2.2.2.2.2.1
theorem RM.e60 {S M : Mem} {B : Int} (h : RM S M B) : M 60 = S 33 := h.1.2.2.2.2.2.2.2.2.2.2.2.2.1
theorem RM.e61 {S M : Mem} {B : Int} (h : RM S M B) : M 61 = S 34 := h.1.2.2.2.2.2.2.2.2.2.2.2.2.2.1
theorem RM.e62 {S M : Mem} {B : Int} (h : RM S M B) : M 62 = S 35 := h.1.2.2.2.2.2.2.2.2.2.2.2.2.2.2.1
theorem RM.e63 {S M : Mem} {B : Int} (h : RM S M B) : M 63 = S 36 := h.1.2.2.2.2.2.2.2.2.2.2.2.2.2.2.2.1
theorem RM.e64 {S M : Mem} {B : Int} (h : RM S M B) : M 64 = S 37 := h.1.2.2.2.2.2.2.2.2.2.2.2.2.2.2.2.2.1
theorem RM.e65 {S M : Mem} {B : Int} (h : RM S M B) : M 65 = S 38 := h.1.2.2.2.2.2.2.2.2.2.2.2.2.2.2.2.2.2.1
theorem RM.e66 {S M : Mem} {B : Int} (h : RM S M B) : M 66 = S 39 := h.1.2.2.2.2.2.2.2.2.2.2.2.2.2.2.2.2.2.2.1
theorem RM.e69 {S M : Mem} {B : Int} (h : RM S M B) : M 69 = S 40 := h.1.2.2.2.2.2.2.2.2.2.2.2.2.2.2.2.2.2.2.2.1
theorem RM.e70 {S M : Mem} {B : Int} (h : RM S M B) : M 70 = S 43 := h.1.2.2.2.2.2.2.2.2.2.2.2.2.2.2.2.2.2.2.2.2
theorem RM.s0 {S M : Mem} {B : Int} (h : RM S M B) : M 47 0 = S 5 0 := h.2.1.1
theorem RM.s1 {S M : Mem} {B : Int} (h : RM S M B) : M 47 1 = S 1 0 := h.2.1.2.1
theorem RM.s10 {S M : Mem} {B : Int} (h : RM S M B) : M 47 10 = S 3 0 := h.2.1.2.2.1
theorem RM.s13 {S M : Mem} {B : Int} (h : RM S M B) : M 47 13 = S 3 1 := h.2.1.2.2.2.1
theorem RM.s14 {S M : Mem} {B : Int} (h : RM S M B) : M 47 14 = S 3 2 := h.2.1.2.2.2.2.1
theorem RM.s15 {S M : Mem} {B : Int} (h : RM S M B) : M 47 15 = S 5 1 := h.2.1.2.2.2.2.2.1
theorem RM.s16 {S M : Mem} {B : Int} (h : RM S M B) : M 47 16 = S 4 0 := h.2.1.2.2.2.2.2.2.1
theorem RM.s29 {S M : Mem} {B : Int} (h : RM S M B) : M 47 29 = S 41 4 := h.2.1.2.2.2.2.2.2.2.1
theorem RM.s31 {S M : Mem} {B : Int} (h : RM S M B) : M 47 31 = S 6 0 := h.2.1.2.2.2.2.2.2.2.2
theorem RM_w {S M : Mem} {B i v : Int} (hR : RM S M B) {rs rm : Nat} (hp : (rs = 7 ∧ rm = 48) ∨ (rs = 8 ∧ rm = 49) ∨ (rs = 9 ∧ rm = 50) ∨ (rs = 18 ∧ rm = 51) ∨ (rs = 19 ∧ rm = 52) ∨ (rs = 20 ∧ rm = 53) ∨ (rs = 21 ∧ rm = 54) ∨ (rs = 23 ∧ rm = 55) ∨ (rs = 24 ∧ rm = 56) ∨ (rs = 25 ∧ rm = 57)) : RM (mw S rs i v) (mw M rm i v) B := by
  obtain ⟨⟨e48, e49, e50, e51, e52, e53, e54, e55, e56, e57, e58, e59, e60, e61, e62, e63, e64, e65, e66, e69, e70⟩, ⟨t1, t2, t3, t4, t5, t6, t7, t8, t9⟩, hT⟩ := hR
  rcases hp with ⟨rfl, rfl⟩ | ⟨rfl, rfl⟩ | ⟨rfl, rfl⟩ | ⟨rfl, rfl⟩ | ⟨rfl, rfl⟩ | ⟨rfl, rfl⟩ | ⟨rfl, rfl⟩ | ⟨rfl, rfl⟩ | ⟨rfl, rfl⟩ | ⟨rfl, rfl⟩
  all_goals
    refine ⟨?_, ?_, ?_⟩
    · unfold Rr
      simp only [mw_rs, mw_rn, ne_eq, not_false_eq_true, Nat.reduceEqDiff, Nat.reduceLT, Nat.reduceLeDiff, true_or, or_true, forall_const]
      simp only [e48, e49, e50, e51, e52, e53, e54, e55, e56, e57, e58, e59, e60, e61, e62, e63, e64, e65, e66, e69, e70, and_self]
    · unfold Rs
      simp only [mw_rn, ne_eq, not_false_eq_true, Nat.reduceEqDiff, Nat.reduceLT, Nat.reduceLeDiff, true_or, or_true, forall_const]
      exact ⟨t1, t2, t3, t4, t5, t6, t7, t8, t9⟩
    · simp only [mw_rn, ne_eq, not_false_eq_true, Nat.reduceEqDiff, Nat.reduceLT, Nat.reduceLeDiff, true_or, or_true, forall_const]
      exact Rt_rw hT (fun k p k0 k4 => mwq (by omega) _ _ k0 k4)
theorem RM.enqH {S M : Mem} {B i l : Int} (hR : RM (aEnq S i l) M B) : RM (aEnqH S i l) M B := RM_S hR (fun r hr => by
  unfold aEnqH
  exact mw_rn _ _ _ (by rintro rfl; cases hr))
/-! letting go -/
def aLetsO (S : Mem) (b : Int) : Mem := if S 19 b = -6 then S else aLets S b (S 19 b) (S 4 0).toNat
def hdC (S : Mem) (b : Int) : Int → Bool := fun j => decide (S 34 j = 0 ∧ S 33 j = b)
theorem lets_loopM {d : Nat} {S T M : Mem} {lo : Int → Int} {x B b : Int} (h : AI T lo x) (hE : Ex [19, 20, 21, 23] S T) (b0 : 0 ≤ b) (b8 : b < 8) (hon : S 19 b = -6 ∨ T 9 (S 19 b) = 1) :
    ∀ (n k : Nat) (Mk : Mem), (k : Int) + n = T 4 0 → RM (if S 19 b = -6 then S else aLets S b (S 19 b) k) Mk (B + k) → Fr M Mk →
      gV mX7_lets (d + 1) (fun r M' => r = vI (T 22 b) ∧ RM (aLetsO S b) M' (B + 400) ∧ Fr M M') 9 [vR 47, vI b, vI (ct (hdC T b) k), vI k] [vI (T 4 0), vI k] Mk
  | 0, k, Mk, hk, hR, hF => by
    have h4 := h.1.2.2.1
    have e : k = (T 4 0).toNat := by omega
    have e4 : S 4 = T 4 := hE 4 (by decide)
    refine gV_it rfl (by unfold rng; omega) (by omega) ?_
    repeat (refine gV_s rfl (by first | exact trivial | omega) ?_)
    refine gV_ret rfl trivial ⟨?_, ?_, hF⟩
    · rw [h.2.2.2.2.2.2.2.2.1 b b0 b8, e]
      rfl
    · unfold aLetsO
      rw [e4, ← e]
      exact RM_B hR (by omega)
  | n + 1, k, Mk, hk, hR, hF => by
    have h4 := h.1.2.2.1
    have hT := h.2.2.2.2.2.2.1 k
    have ih := fun Mk' hR' hF' => lets_loopM (d := d) (M := M) (B := B) h hE b0 b8 hon n (k + 1) Mk' (by push_cast; omega) hR' hF'
    rw [ct_s _ k] at ih
    have e4 : S 4 = T 4 := hE 4 (by decide)
    have e33S : S 33 = T 33 := hE 33 (by decide)
    have e34S : S 34 = T 34 := hE 34 (by decide)
    have hon2 : -6 ≤ S 19 b ∧ S 19 b < 4 := by
      rcases hon with q | q
      · omega
      · have := AI_up h q; omega
    by_cases hc : S 19 b = -6
    · rw [if_pos hc] at hR
      simp only [if_pos hc] at ih
      have e61 : Mk 61 = T 34 := by rw [hR.e61]; exact e34S
      have e60 : Mk 60 = T 33 := by rw [hR.e60]; exact e33S
      have e16 : Mk 47 16 = T 4 0 := by rw [hR.s16, e4]
      have e52 : Mk 52 b = -6 := by rw [hR.e52, hc]
      have hR' : RM S Mk (B + ((k + 1 : Nat) : Int)) := RM_B hR (by push_cast; omega)
      refine gV_in rfl (by unfold rng; omega) (by omega) ?_
      repeat (refine gV_s rfl (by first | exact trivial | omega) ?_)
      rw [e61]
      refine gV_i rfl (by unfold rng; omega) (fun h1 => ?_) (fun h1 => ?_)
      · repeat (refine gV_s rfl (by first | exact trivial | omega) ?_)
        rw [e60]
        refine gV_i rfl (by unfold rng; omega) (fun h2 => ?_) (fun h2 => ?_)
        · rw [if_pos (by unfold hdC; simp [h1, h2])] at ih
          repeat (refine gV_s rfl (by first | exact trivial | omega) ?_)
          rw [e52]
          refine gV_it rfl (by unfold rng; omega) (by omega) ?_
          repeat (refine gV_s rfl (by first | exact trivial | omega) ?_)
          rw [e16]
          exact ih _ hR' hF
        · rw [if_neg (by unfold hdC; simp [h2]), Int.add_zero] at ih
          repeat (refine gV_s rfl (by first | exact trivial | omega) ?_)
          rw [e16]
          exact ih _ hR' hF
      · rw [if_neg (by unfold hdC; simp [h1]), Int.add_zero] at ih
        repeat (refine gV_s rfl (by first | exact trivial | omega) ?_)
        rw [e16]
        exact ih _ hR' hF
    · have hu : T 9 (S 19 b) = 1 := by rcases hon with q | q; exact absurd q hc; exact q
      obtain ⟨l0, lL, l4⟩ := AI_up h hu
      rw [if_neg hc] at hR
      simp only [if_neg hc] at ih
      have hTk := AI_lets (b := b) h hu k (by omega)
      have hEk := Ex.lets hE (by simp) (b := b) (l := S 19 b) k
      have so : ∀ r, r ≠ 22 → r ≠ 17 → r ≠ 34 → r ≠ 35 → r ≠ 41 → (r < 11 ∨ 15 ≤ r) → aLets S b (S 19 b) k r = S r := fun r a1 a2 a3 a4 a5 a6 => aLets_o S b _ a1 a2 a3 a4 a5 a6 l4 k
      have e61 : Mk 61 k = T 34 k := by rw [hR.e61, aLets_34 S b l4, if_neg (by omega), e34S]
      have e60 : Mk 60 = T 33 := by rw [hR.e60, so 33 (by decide) (by decide) (by decide) (by decide) (by decide) (by omega)]; exact e33S
      have e16 : Mk 47 16 = T 4 0 := by rw [hR.s16, so 4 (by decide) (by decide) (by decide) (by decide) (by decide) (by omega), e4]
      have e52 : Mk 52 b = S 19 b := by rw [hR.e52, so 19 (by decide) (by decide) (by decide) (by decide) (by decide) (by omega)]
      have step : aLets S b (S 19 b) (k + 1) = if aLets S b (S 19 b) k 34 k = 0 ∧ aLets S b (S 19 b) k 33 k = b then aEnqH (aLets S b (S 19 b) k) k (S 19 b) else aLets S b (S 19 b) k := rfl
      rw [step, so 33 (by decide) (by decide) (by decide) (by decide) (by decide) (by omega), show aLets S b (S 19 b) k 34 k = T 34 k by rw [aLets_34 S b l4, if_neg (by omega), e34S], e33S] at ih
      refine gV_in rfl (by unfold rng; omega) (by omega) ?_
      repeat (refine gV_s rfl (by first | exact trivial | omega) ?_)
      rw [e61]
      refine gV_i rfl (by unfold rng; omega) (fun h1 => ?_) (fun h1 => ?_)
      · repeat (refine gV_s rfl (by first | exact trivial | omega) ?_)
        rw [e60]
        refine gV_i rfl (by unfold rng; omega) (fun h2 => ?_) (fun h2 => ?_)
        · rw [if_pos ⟨h1, h2⟩, if_pos (by unfold hdC; simp [h1, h2])] at ih
          repeat (refine gV_s rfl (by first | exact trivial | omega) ?_)
          rw [e52]
          refine gV_in rfl (by unfold rng; omega) (by omega) ?_
          repeat (refine gV_s rfl (by first | exact trivial | omega) ?_)
          rw [e52]
          refine gV_cV (ok_queue (d := d) (P := fun r M' => r = none ∧ M' = mQueue Mk k (S 19 b)) (i := k) (by omega) (by omega) ⟨rfl, rfl⟩) mX7_queue_ok sX7_X7_queue rfl rfl rfl rfl rfl rfl ?_
          rintro r M' ⟨rfl, rfl⟩
          have hord : ∀ k', 0 ≤ k' → k' < 4 → 0 ≤ aLets S b (S 19 b) k 15 k' ∧ aLets S b (S 19 b) k 15 k' ≤ aLets S b (S 19 b) k 16 k' ∧ aLets S b (S 19 b) k 16 k' ≤ aLets S b (S 19 b) k 17 k' := by
            rw [hEk 15 (by decide), hEk 16 (by decide), hEk 17 (by decide)]
            exact AI_ord hTk
          have hlk : aLets T b (S 19 b) k 35 k = -6 := by
            have e34k : aLets T b (S 19 b) k 34 k = 0 := by rw [aLets_34 T b l4, if_neg (by omega)]; exact h1
            rcases hTk.2.2.2.2.2.2.2.2.2.2.2.2.1 k (by omega) (by rw [aLets_o T b _ (by decide) (by decide) (by decide) (by decide) (by decide) (by omega) l4 k]; omega) with q | q
            · exact q.1
            · omega
          have hrows : ∀ k' p, 0 ≤ k' → k' < 4 → 0 ≤ p → p < aLets S b (S 19 b) k 17 k' → qr (aLets S b (S 19 b) k) k' p ≠ k := by
            intro k' p a1 a2 a3 a4 e
            rw [hEk 17 (by decide)] at a4
            have eqr : qr (aLets S b (S 19 b) k) k' p = qr (aLets T b (S 19 b) k) k' p := by
              show aLets S b (S 19 b) k (11 + k'.toNat) p = aLets T b (S 19 b) k (11 + k'.toNat) p
              rw [hEk _ (by simp; omega)]
            rw [eqr] at e
            have := ((hTk.2.2.2.2.2.2.2.2.2.2.2.1 k' a1 a2).2.1 p a3 a4).1.2.2
            rw [show (qr (aLets T b (S 19 b) k)) k' p = k from e, hlk] at this
            omega
          have hR2 := (RM_enq hR l0 l4 hord hrows (by rw [aLets_34 S b l4, if_neg (by omega), e34S, h1]; decide)).enqH
          repeat (refine gV_s rfl (by first | exact trivial | omega) ?_)
          have e16' : mQueue Mk k (S 19 b) 47 16 = T 4 0 := by unfold mQueue; simp only [mw_rs, mw_rn, ne_eq, not_false_eq_true, Nat.reduceEqDiff, Nat.reduceLT, Nat.reduceLeDiff, true_or, or_true, forall_const]; rw [up1_n _ _ (by decide)]; exact e16
          rw [e16']
          refine ih _ ?_ ?_
          · have : B + (k : Int) + 1 = B + ((k + 1 : Nat) : Int) := by push_cast; omega
            rw [← this]
            exact hR2
          · exact Fr.w (Fr.w (Fr.w (Fr.w hF (by decide)) (by decide)) (by decide)) (by decide)
        · rw [if_neg (fun q => h2 q.2), if_neg (by unfold hdC; simp [h2]), Int.add_zero] at ih
          repeat (refine gV_s rfl (by first | exact trivial | omega) ?_)
          rw [e16]
          exact ih _ (RM_B hR (by push_cast; omega)) hF
      · rw [if_neg (fun q => h1 q.1), if_neg (by unfold hdC; simp [h1]), Int.add_zero] at ih
        repeat (refine gV_s rfl (by first | exact trivial | omega) ?_)
        rw [e16]
        exact ih _ (RM_B hR (by push_cast; omega)) hF
theorem ok_lets {d : Nat} {S T M : Mem} {lo : Int → Int} {x B b : Int} (h : AI T lo x) (hE : Ex [19, 20, 21, 23] S T) (b0 : 0 ≤ b) (b8 : b < 8) (hon : S 19 b = -6 ∨ T 9 (S 19 b) = 1) (hR : RM S M B) : gOk mX7_lets (d + 1) [vR 47, vI b] M (fun r M' => r = vI (T 22 b) ∧ RM (aLetsO S b) M' (B + 400) ∧ Fr M M') := by
  have h4 := h.1.2.2.1
  have e16 : M 47 16 = T 4 0 := by rw [hR.s16, hE 4 (by decide)]
  refine gOk_of mX7_lets_ok (by simp) (Nat.le_of_ble_eq_true rfl) ?_
  repeat (refine gV_s rfl (by first | exact trivial | omega) ?_)
  rw [e16]
  refine lets_loopM (d := d) (B := B) h hE b0 b8 hon (T 4 0).toNat 0 M (by omega) ?_ Fr.rf
  rw [show B + ((0 : Nat) : Int) = B by omega]
  split
  · exact hR
  · exact hR
/-- a release beside the reference's letting go -/
theorem rel_lets {S : Mem} {b : Int} : aRel S b = aLetsO (mw S 21 b 0) b := by
  unfold aRel aLetsO
  rw [mw_rn _ _ _ (by decide), mw_rn _ _ _ (by decide)]
theorem ok_settleM {d : Nat} {S M : Mem} {lo : Int → Int} {x B b : Int} (h : AI S lo x) (b0 : 0 ≤ b) (b8 : b < 8) (hR : RM S M B) (hB : B ≤ 2000000000) (hg0 : goal S b ≠ -6) (hg : S 9 (goal S b) = 1 ∧ S 19 b ≠ -6) :
    gOk mX7_settle (d + 2) [vR 47, vI b] M (fun r M' => r = vI (if may S b (goal S b) = true then 1 else 0) ∧ RM (aSettle S b) M' (B + 400) ∧ Fr M M') := by
  have hM := MR_of h hR hB
  obtain ⟨g1, g2⟩ := hg
  obtain ⟨l0, lL, l4⟩ := AI_up h g1
  have hbk := AI_bk h b
  have hJ := h.2.2.1 b
  have hA := AI_rch0 h b0 b8 g1 g2
  have e53 : M 53 b = S 20 b := by rw [hR.e53]
  have e52 : M 52 b = S 19 b := by rw [hR.e52]
  have fin : gV mX7_settle (d + 2) (fun r M' => r = vI (if may S b (goal S b) = true then 1 else 0) ∧ RM (aSettle S b) M' (B + 400) ∧ Fr M M') 25 [vR 47, vI b, vI (goal S b), none] [] M := by
    repeat (refine gV_s rfl (by first | exact trivial | omega) ?_)
    refine gV_cV (ok_canCome (d := d + 1) (b := b) (l := goal S b) hM (by unfold rng; omega) l0 l4) mX7_canCome_ok sX7_X7_canCome rfl rfl rfl rfl rfl rfl ?_
    rintro r M' ⟨rfl, ⟨h2, rfl⟩ | ⟨h2, rfl⟩⟩
    · have hm := (can_may h hR).mp h2
      have eS : aSettle S b = aLetsO (mw (aRch0 S b (goal S b)) 21 b 0) b := by
        unfold aSettle
        rw [if_pos ⟨hg0, hm⟩]
        unfold aReach
        rw [rel_lets]
      rw [if_pos hm, eS]
      have last : ∀ v : Int, v = (if S 20 b = -6 then 0 else 1) → gV mX7_settle (d + 2) (fun r M'' => r = vI 1 ∧ RM (aLetsO (mw (aRch0 S b (goal S b)) 21 b 0) b) M'' (B + 400) ∧ Fr M' M'') 57 [vR 47, vI b, vI (goal S b), none] [vI v, vI (M' 55 b), vI b, vR 55] M' := by
        intro v hv
        have hR1 : RM (mw (aRch0 S b (goal S b)) 21 b 0) (mw (mw (mw (mw M' 55 b (M' 55 b + v)) 52 b (goal S b)) 53 b (-6)) 54 b 0) B := by
          have c1 : mw (aRch0 S b (goal S b)) 21 b 0 = mw (mw (mw (if S 20 b = -6 then S else mw S 23 b (S 23 b + 1)) 19 b (goal S b)) 20 b (-6)) 21 b 0 := by
            unfold aRch0
            rw [mw_comm _ _ _ _ _ (show (20 : Nat) ≠ 19 by decide)]
          rw [c1]
          refine RM_w (RM_w (RM_w ?_ (by simp)) (by simp)) (by simp)
          by_cases e : S 20 b = -6
          · rw [if_pos e] at hv ⊢
            rw [hv, Int.add_zero, mw_id]
            exact hR
          · rw [if_neg e] at hv ⊢
            rw [hv, hR.e55]
            exact RM_w hR (by simp)
        have hE1 : Ex [19, 20, 21, 23] (mw (aRch0 S b (goal S b)) 21 b 0) (aRch0 S b (goal S b)) := Ex.skip1 Ex.rf (by decide)
        repeat (refine gV_s rfl (by first | exact trivial | omega) ?_)
        refine gV_cV (ok_lets (d := d) hA hE1 b0 b8 (Or.inr (by rw [mw_rn _ _ _ (by decide), aRch0_19, up1_s, aRch0_o _ _ _ (by decide) (by decide) (by decide)]; exact g1)) hR1) mX7_lets_ok sX7_X7_lets rfl rfl rfl rfl rfl rfl ?_
        rintro r M'' ⟨rfl, hR2, hF2⟩
        repeat (refine gV_s rfl (by first | exact trivial | omega) ?_)
        exact gV_ret rfl trivial ⟨rfl, hR2, Fr.tr (Fr.w (Fr.w (Fr.w (Fr.w Fr.rf (by decide)) (by decide)) (by decide)) (by decide)) hF2⟩
      refine gV_in rfl (by unfold rng; omega) (by omega) ?_
      repeat (refine gV_s rfl (by first | exact trivial | omega) ?_)
      rw [e53]
      refine gV_i rfl (by unfold rng; omega) (fun h3 => ?_) (fun h3 => ?_)
      · refine gV_s rfl trivial ?_
        exact last 0 (by rw [if_pos (by omega)])
      · refine gV_s rfl trivial (gV_s rfl trivial ?_)
        exact last 1 (by rw [if_neg (by omega)])
    · have hm : ¬ may S b (goal S b) = true := fun q => h2 ((can_may h hR).mpr q)
      have eS : aSettle S b = S := by unfold aSettle; rw [if_neg (fun q => hm q.2)]
      rw [if_neg hm, eS]
      refine gV_it rfl (by unfold rng; omega) rfl ?_
      repeat (refine gV_s rfl (by first | exact trivial | omega) ?_)
      exact gV_ret rfl trivial ⟨rfl, RM_B hR (by omega), Fr.rf⟩
  refine gOk_of mX7_settle_ok (by simp) (Nat.le_of_ble_eq_true rfl) ?_
  repeat (refine gV_s rfl (by first | exact trivial | omega) ?_)
  rw [e53]
  refine gV_i rfl (by unfold rng; omega) (fun h3 => ?_) (fun h3 => ?_)
  · have e : goal S b = S 19 b := by unfold goal; rw [if_pos (by omega)]
    rw [e] at fin ⊢
    refine gV_s rfl trivial (gV_s rfl trivial (gV_s rfl trivial (gV_s rfl ⟨b0, b8⟩ ?_)))
    rw [e52]
    refine gV_s rfl trivial ?_
    exact fin
  · have e : goal S b = S 20 b := by unfold goal; rw [if_neg (by omega)]
    rw [e] at fin ⊢
    refine gV_s rfl trivial (gV_s rfl trivial (gV_s rfl trivial (gV_s rfl ⟨b0, b8⟩ ?_)))
    rw [e53]
    refine gV_s rfl trivial (gV_s rfl trivial ?_)
    exact fin
