/-! A link fails. -/
def aLo (S : Mem) (l : Int) : Mem :=
  mw (mw (mw (mw (aTurn S (qr S l (S 15 l)) 5) 39 (qr S l (S 15 l)) (S 5 0)) 28 (S 31 (qr S l (S 15 l))) (S 28 (S 31 (qr S l (S 15 l))) + 1)) 16 l (if S 16 l = S 15 l then S 15 l + 1 else S 16 l)) 15 l (S 15 l + 1)
def aLoK (S : Mem) (l : Int) : Nat → Mem
  | 0 => S
  | k + 1 => aLo (aLoK S l k) l
theorem aLo_o (S : Mem) (l : Int) {r : Nat} (h1 : r ≠ 34) (h2 : r ≠ 41) (h3 : r ≠ 39) (h4 : r ≠ 28) (h5 : r ≠ 16) (h6 : r ≠ 15) : aLo S l r = S r := by
  unfold aLo
  rw [mw_rn _ _ _ h6, mw_rn _ _ _ h5, mw_rn _ _ _ h4, mw_rn _ _ _ h3, aTurn_o _ _ _ h1 h2]
theorem aLo_15 (S : Mem) (l : Int) : aLo S l 15 = up1 (S 15) l (S 15 l + 1) := by
  unfold aLo
  rw [mw_rs, mw_rn _ _ _ (by decide), mw_rn _ _ _ (by decide), mw_rn _ _ _ (by decide), aTurn_o _ _ _ (by decide) (by decide)]
theorem aLo_16 (S : Mem) (l : Int) : aLo S l 16 = up1 (S 16) l (if S 16 l = S 15 l then S 15 l + 1 else S 16 l) := by
  unfold aLo
  rw [mw_rn _ _ _ (by decide), mw_rs, mw_rn _ _ _ (by decide), mw_rn _ _ _ (by decide), aTurn_o _ _ _ (by decide) (by decide)]
theorem aLo_34 (S : Mem) (l : Int) : aLo S l 34 = up1 (S 34) (qr S l (S 15 l)) 5 := by
  unfold aLo
  rw [mw_rn _ _ _ (by decide), mw_rn _ _ _ (by decide), mw_rn _ _ _ (by decide), mw_rn _ _ _ (by decide), aTurn_34]
theorem aLo_41 (S : Mem) (l : Int) : aLo S l 41 = up1 (up1 (S 41) (S 34 (qr S l (S 15 l))) (S 41 (S 34 (qr S l (S 15 l))) - 1)) 5 (up1 (S 41) (S 34 (qr S l (S 15 l))) (S 41 (S 34 (qr S l (S 15 l))) - 1) 5 + 1) := by
  unfold aLo
  rw [mw_rn _ _ _ (by decide), mw_rn _ _ _ (by decide), mw_rn _ _ _ (by decide), mw_rn _ _ _ (by decide), aTurn_41]
theorem aLo_39 (S : Mem) (l : Int) : aLo S l 39 = up1 (S 39) (qr S l (S 15 l)) (S 5 0) := by
  unfold aLo
  rw [mw_rn _ _ _ (by decide), mw_rn _ _ _ (by decide), mw_rn _ _ _ (by decide), mw_rs, aTurn_o _ _ _ (by decide) (by decide)]
theorem aLo_28 (S : Mem) (l : Int) : aLo S l 28 = up1 (S 28) (S 31 (qr S l (S 15 l))) (S 28 (S 31 (qr S l (S 15 l))) + 1) := by
  unfold aLo
  rw [mw_rn _ _ _ (by decide), mw_rn _ _ _ (by decide), mw_rs, mw_rn _ _ _ (by decide), aTurn_o _ _ _ (by decide) (by decide)]
theorem Kf_lost {n i : Int} {st fl sent came lost : Int → Int} (h : Kf n st fl sent came lost) (h0 : 0 ≤ i) (h1 : i < n) (hs : st i ≠ 4 ∧ st i ≠ 5) : Kf n (up1 st i 5) fl sent came (up1 lost (fl i) (lost (fl i) + 1)) := by
  intro f h2 h3
  rw [ct_st2 h0 (by omega), ct_st2 h0 (by omega), up1_e]
  have h4 := h f h2 h3
  by_cases e : f = fl i
  · subst e
    simp [hs, h4]
  · simp [e, Ne.symm e, hs, h4]
theorem Kl_lo {n i l1 : Int} {st lk ws qs qe : Int → Int} (h : Kl n st lk ws qs qe) (h0 : 0 ≤ i) (h1 : i < n) (hs : st i = 1) (hq : qs l1 = ws l1) (hl : lk i = l1) : Kl n (up1 st i 5) lk (up1 ws l1 (ws l1 + 1)) (up1 qs l1 (ws l1 + 1)) qe := by
  intro l h2 h3
  have h4 := h l h2 h3
  rw [ct_st2 h0 (by omega), ct_st2 h0 (by omega), up1_e, up1_e, ← h4.1, ← h4.2.1, ← h4.2.2]
  by_cases e : l = l1
  · subst e
    simp [hs, hl]
    omega
  · simp [e, hs, hl, Ne.symm e]
theorem Jq_lo {n tm l1 : Int} {lo st lk ar dl up ws qs qe : Int → Int} {rw : Int → Int → Int} (h : Jq n tm lo st lk ar dl up ws qs qe rw) (a1 : 0 ≤ l1) (b1 : l1 < 4) (hq : qs l1 = ws l1) (hq2 : qs l1 < qe l1) :
    Jq n tm lo (up1 st (rw l1 (ws l1)) 5) lk ar dl up (up1 ws l1 (ws l1 + 1)) (up1 qs l1 (ws l1 + 1)) qe rw := by
  intro l a b
  obtain ⟨⟨q1, q2, q3⟩, q4, q5, q6, q7⟩ := h l a b
  by_cases e : l = l1
  · subst e
    simp only [up1_s]
    have key : ∀ p, 0 ≤ p → p < qe l → p ≠ ws l → rw l p ≠ rw l (ws l) := fun p p0 p1 p2 => by
      by_cases h9 : p < ws l
      · exact q5 p (ws l) p0 h9 (by omega)
      · exact (q5 (ws l) p (by omega) (by omega) p1).symm
    refine ⟨⟨by omega, by omega, by omega⟩, fun p p0 p1 => ?_, q5, fun p p' p0 p1 p2 => by omega, fun q => by have := q7 q; omega⟩
    have h4 := q4 p p0 p1
    by_cases e2 : p = ws l
    · subst e2
      simp only [up1_s]
      exact ⟨h4.1, fun _ => by omega, fun _ _ => by omega, fun _ => by omega⟩
    · have hk := key p p0 p1 e2
      simp only [up1_n _ _ hk]
      exact ⟨h4.1, fun x => h4.2.1 (by omega), fun x y => by omega, fun x => h4.2.2.2 (by omega)⟩
  · obtain ⟨⟨s1, s2, s3⟩, s4, s5, s6, s7⟩ := h l1 a1 b1
    have hi := (s4 (ws l1) (by omega) (by omega)).1.2.2
    have key : ∀ p, 0 ≤ p → p < qe l → rw l p ≠ rw l1 (ws l1) := fun p p0 p1 e2 => by
      have := (q4 p p0 p1).1.2.2
      rw [e2, hi] at this
      omega
    simp only [up1_n _ _ e]
    refine ⟨⟨q1, q2, q3⟩, fun p p0 p1 => ?_, q5, q6, q7⟩
    have hk := key p p0 p1
    simp only [up1_n _ _ hk]
    exact q4 p p0 p1
theorem AI_lo1 {S : Mem} {lo : Int → Int} {x l : Int} (h : AI S lo x) (l0 : 0 ≤ l) (l4 : l < 4) (hw : S 15 l < S 17 l) : AI (aLo S l) lo x := by
  have eo : ∀ r : Nat, r ≠ 34 → r ≠ 41 → r ≠ 39 → r ≠ 28 → r ≠ 16 → r ≠ 15 → aLo S l r = S r := fun r a b c d e f => aLo_o S l a b c d e f
  have eq : ∀ l' p, 0 ≤ l' → l' < 4 → qr (aLo S l) l' p = qr S l' p := fun l' p a b => by
    show aLo S l (11 + l'.toNat) p = _
    rw [eo _ (by omega) (by omega) (by omega) (by omega) (by omega) (by omega)]
  have e16 := aLo_16 S l
  obtain ⟨ha, hl, hb, hn, hh, hf, ht, ks, kh, kf, kl, hq, hi, ho⟩ := h
  obtain ⟨⟨q1, q2, q3⟩, q4, q5, q6, q7⟩ := hq l l0 l4
  obtain ⟨⟨i0, i1, i2⟩, -, i3, i4⟩ := q4 (S 15 l) q1 hw
  have h40 : up1 (up1 (S 41) (S 34 (qr S l (S 15 l))) (S 41 (S 34 (qr S l (S 15 l))) - 1)) 5 (up1 (S 41) (S 34 (qr S l (S 15 l))) (S 41 (S 34 (qr S l (S 15 l))) - 1) 5 + 1) 4 = S 41 4 ↔ S 34 (qr S l (S 15 l)) ≠ 4 := by
    rw [turn_val]
    constructor
    · intro q e
      rw [e] at q
      simp at q
      omega
    · intro q
      rw [if_neg (Ne.symm q), if_neg (by decide)]
      omega
  unfold AI Ja
  by_cases hc : S 16 l = S 15 l
  · have hs := i4 (by omega)
    rw [if_pos hc] at e16
    simp only [eo, aLo_15, e16, aLo_34, aLo_41, aLo_28, ne_eq, not_false_eq_true, Nat.reduceEqDiff, Nat.reduceLT, Nat.reduceLeDiff, true_or, or_true, forall_const]
    exact ⟨ha, hl, hb, hn, Jh_turn hh (by decide), hf, Jt_turn ht (by decide), Ks_turn ks i0 i1, Kh_turn kh i0 i1 (by omega) (by decide), Kf_lost kf i0 i1 (by omega), Kl_lo kl i0 i1 hs hc i2, Jq_rw (Jq_lo hq l0 l4 hc (by omega)) eq, Ji_rw (Ji_turn hi (by omega) (by decide)) ha.1.2 eq, Jo_ins ho (h40.mpr (by omega))⟩
  · have hs := (i3 (Int.le_refl _) (by omega)).1
    rw [if_neg hc, up1_id] at e16
    simp only [eo, aLo_15, e16, aLo_34, aLo_41, aLo_28, ne_eq, not_false_eq_true, Nat.reduceEqDiff, Nat.reduceLT, Nat.reduceLeDiff, true_or, or_true, forall_const]
    exact ⟨ha, hl, hb, hn, Jh_turn hh (by decide), hf, Jt_turn ht (by decide), Ks_turn ks i0 i1, Kh_turn kh i0 i1 (by omega) (by decide), Kf_lost kf i0 i1 (by omega), Kl_arr kl i0 i1 hs (by decide) i2, Jq_rw (Jq_arr hq l0 l4 (by omega) (by decide)) eq, Ji_rw (Ji_turn hi (by omega) (by decide)) ha.1.2 eq, Jo_ins ho (h40.mpr (by omega))⟩
theorem aLoK_o (S : Mem) (l : Int) {r : Nat} (h1 : r ≠ 34) (h2 : r ≠ 41) (h3 : r ≠ 39) (h4 : r ≠ 28) (h5 : r ≠ 16) (h6 : r ≠ 15) : ∀ k, aLoK S l k r = S r
  | 0 => rfl
  | k + 1 => by rw [aLoK, aLo_o _ _ h1 h2 h3 h4 h5 h6, aLoK_o S l h1 h2 h3 h4 h5 h6 k]
theorem aLoK_15 (S : Mem) (l : Int) : ∀ k : Nat, aLoK S l k 15 = up1 (S 15) l (S 15 l + k)
  | 0 => by simp only [aLoK]; rw [show S 15 l + ((0 : Nat) : Int) = S 15 l by omega, up1_id]
  | k + 1 => by
    rw [aLoK, aLo_15, aLoK_15 S l k, up1_up1, up1_s]
    congr 1
    push_cast
    omega
theorem aLoK_16 {S : Mem} {l : Int} (hq : S 15 l ≤ S 16 l) : ∀ k : Nat, aLoK S l k 16 = up1 (S 16) l (if S 16 l < S 15 l + k then S 15 l + k else S 16 l)
  | 0 => by simp only [aLoK]; rw [if_neg (by omega), up1_id]
  | k + 1 => by
    rw [aLoK, aLo_16, aLoK_16 hq k, aLoK_15, up1_up1, up1_s, up1_s]
    congr 1
    push_cast
    split <;> split <;> split <;> omega
theorem AI_loK {S : Mem} {lo : Int → Int} {x l : Int} (h : AI S lo x) (l0 : 0 ≤ l) (l4 : l < 4) : ∀ k : Nat, (k : Int) ≤ S 17 l - S 15 l → AI (aLoK S l k) lo x
  | 0, _ => h
  | k + 1, hk => by
    refine AI_lo1 (AI_loK h l0 l4 k (by omega)) l0 l4 ?_
    rw [aLoK_15, up1_s, aLoK_o S l (by decide) (by decide) (by decide) (by decide) (by decide) (by decide)]
    omega
def loN (S : Mem) (l : Int) : Nat := (S 17 l - S 15 l).toNat
def aLose (S : Mem) (l : Int) : Mem := aLoK S l (loN S l)
/-- the failing link is down, all that it had is lost -/
theorem mw_lo (S : Mem) (l : Int) (v : Int) (j : Int) : aLo (mw S 9 j v) l = mw (aLo S l) 9 j v := by
  have e : ∀ r, r ≠ 9 → mw S 9 j v r = S r := fun r h => mw_rn _ _ _ h
  have eq : qr (mw S 9 j v) l = qr S l := by
    funext p
    show mw S 9 j v (11 + l.toNat) p = _
    rw [mw_rn _ _ _ (by omega)]
  unfold aLo
  rw [e 15 (by decide), e 16 (by decide), e 5 (by decide), e 31 (by decide), e 28 (by decide), eq, mw_turn _ _ _ _ _ (by decide) (by decide), mw_comm _ _ _ _ _ (show (9 : Nat) ≠ 39 by decide), mw_comm _ _ _ _ _ (show (9 : Nat) ≠ 28 by decide), mw_comm _ _ _ _ _ (show (9 : Nat) ≠ 16 by decide), mw_comm _ _ _ _ _ (show (9 : Nat) ≠ 15 by decide)]
theorem mw_loK (S : Mem) (l : Int) (v : Int) (j : Int) : ∀ k, aLoK (mw S 9 j v) l k = mw (aLoK S l k) 9 j v
  | 0 => rfl
  | k + 1 => by rw [aLoK, mw_loK S l v j k, mw_lo]; rfl
theorem mw_lose (S : Mem) (l v j : Int) : aLose (mw S 9 j v) l = mw (aLose S l) 9 j v := by
  unfold aLose loN
  rw [mw_rn _ _ _ (by decide), mw_rn _ _ _ (by decide), mw_loK]
theorem AI_down {S : Mem} {lo : Int → Int} {l : Int} (h : AI S lo (-1)) (hu : S 9 l = 1) : AI (aLose (mw S 9 l 0) l) lo l := by
  obtain ⟨l0, lL, l4⟩ := AI_up h hu
  have hall := h.2.2.2.1 (by decide) ⟨l, hu⟩
  have hq0 := (h.2.2.2.2.2.2.2.2.2.2.2.1 l l0 l4).1
  have h1 := AI_loK h l0 l4 (loN S l) (by unfold loN; omega)
  have eo : ∀ r : Nat, r ≠ 34 → r ≠ 41 → r ≠ 39 → r ≠ 28 → r ≠ 16 → r ≠ 15 → aLoK S l (loN S l) r = S r := fun r a b c d e f => aLoK_o S l a b c d e f _
  have e15 : aLoK S l (loN S l) 15 l = S 17 l := by rw [aLoK_15, up1_s]; unfold loN; omega
  rw [mw_lose]
  show AI (mw (aLoK S l (loN S l)) 9 l 0) lo l
  generalize hT : aLoK S l (loN S l) = T at h1 eo e15
  have er : ∀ r : Nat, r ≠ 9 → mw T 9 l 0 r = T r := fun r a => mw_rn _ _ _ a
  have e9 : mw T 9 l 0 9 = up1 (T 9) l 0 := mw_rs _ _ _ _
  have eq : ∀ l' p, 0 ≤ l' → l' < 4 → qr (mw T 9 l 0) l' p = qr T l' p := fun l' p a b => mwq (by omega) _ _ a b
  obtain ⟨ha, hl, hb, hn, hh, hf, ht, ks, kh, kf, kl, hq, hi, ho⟩ := h1
  unfold AI Ja
  simp only [er, e9, ne_eq, not_false_eq_true, Nat.reduceEqDiff, Nat.reduceLT, Nat.reduceLeDiff, true_or, or_true, forall_const]
  have hup : ∀ l', l' ≠ l → up1 (T 9) l 0 l' = T 9 l' := fun l' q => up1_n _ _ q
  refine ⟨ha, ⟨hl.1, fun l' => ?_, hl.2.2⟩, ?_, ?_, hh, hf, ht, ks, kh, kf, kl, Jq_rw ?_ eq, Ji_rw hi ha.1.2 eq, ho⟩
  · by_cases e : l' = l
    · subst e; left; rw [up1_s]
    · rw [hup _ e]; exact hl.2.1 l'
  · intro b
    obtain ⟨g1, g2, g3, g4, g5⟩ := hb b
    refine ⟨?_, ?_, g3, g4, g5⟩
    · rcases g1 with q | ⟨q1, q2, q3 | q3⟩
      · exact Or.inl q
      · refine Or.inr ⟨q1, q2, ?_⟩
        by_cases e : T 19 b = l
        · exact Or.inr e
        · exact Or.inl (by rw [hup _ e]; exact q3)
      · omega
    · rcases g2 with q | ⟨q1, q2, q3 | q3, q4, q5⟩
      · exact Or.inl q
      · refine Or.inr ⟨q1, q2, ?_, q4, q5⟩
        by_cases e : T 20 b = l
        · exact Or.inr e
        · exact Or.inl (by rw [hup _ e]; exact q3)
      · omega
  · intro _ _ b b0 b8
    rw [eo 19 (by decide) (by decide) (by decide) (by decide) (by decide) (by decide)]
    exact hall b b0 b8
  · intro l' a b
    obtain ⟨q1, q4, q5, q6, q7⟩ := hq l' a b
    refine ⟨q1, q4, q5, q6, fun q => ?_⟩
    by_cases e : l' = l
    · subst e
      rw [e15, eo 17 (by decide) (by decide) (by decide) (by decide) (by decide) (by decide)]
    · rw [hup _ e] at q; exact q7 q
/-! buckets of the failed link -/
def aCan (S : Mem) (l : Int) : Nat → Mem
  | 0 => S
  | k + 1 =>
    let T := aCan S l k
    if T 20 k = l then aCancel T k else T
/-- the link that is up and has the fewest buckets -/
def upF (S : Mem) : Nat → Int
  | 0 => -6
  | k + 1 => if S 9 k = 1 ∧ (upF S k < 0 ∨ ct (is_ (S 19) k) 8 < ct (is_ (S 19) (upF S k)) 8) then k else upF S k
def aMv1 (T : Mem) (b : Int) : Mem :=
  let T1 := mw T 20 b (-6)
  let k := upF T1 (T1 1 0).toNat
  aSettle (mw (mw T1 19 b k) 21 b (if k = -6 then 0 else 1)) b
def aMvs (S : Mem) (l : Int) : Nat → Mem
  | 0 => S
  | k + 1 =>
    let T := aMvs S l k
    if T 19 k = l then aMv1 T k else T
def aFail (S : Mem) (l : Int) : Mem := aMvs (aCan (aLose (mw S 9 l 0) l) l 8) l 8
theorem upF_in (S : Mem) : ∀ k : Nat, upF S k = -6 ∨ (0 ≤ upF S k ∧ upF S k < k ∧ S 9 (upF S k) = 1)
  | 0 => Or.inl rfl
  | k + 1 => by
    unfold upF
    split
    · rename_i hc
      exact Or.inr ⟨by omega, by omega, hc.1⟩
    · rcases upF_in S k with q | q
      · exact Or.inl q
      · exact Or.inr ⟨q.1, by omega, q.2.2⟩
theorem upF_some {S : Mem} {l : Int} (hu : S 9 l = 1) (l0 : 0 ≤ l) : ∀ k : Nat, l < k → upF S k ≠ -6
  | 0, h => by omega
  | k + 1, h => by
    unfold upF
    by_cases e : l = k
    · subst e
      split
      · omega
      · rename_i hc
        rcases upF_in S k with q | q
        · exact absurd ⟨hu, Or.inl (by omega)⟩ hc
        · omega
    · have := upF_some hu l0 k (by omega)
      split
      · omega
      · exact this
theorem aCancel_19 (T : Mem) (b : Int) (h : T 19 b < 4) : aCancel T b 19 = T 19 := by
  unfold aCancel
  rw [aRel_o _ _ (by decide) (by decide) (by decide) (by decide) (by decide) (by decide) (by omega) (by rw [mw_rn _ _ _ (by decide)]; exact h), mw_rn _ _ _ (by decide)]
theorem aCancel_20 (T : Mem) (b : Int) (h : T 19 b < 4) : aCancel T b 20 = up1 (T 20) b (-6) := by
  unfold aCancel
  rw [aRel_o _ _ (by decide) (by decide) (by decide) (by decide) (by decide) (by decide) (by omega) (by rw [mw_rn _ _ _ (by decide)]; exact h), mw_rs]
theorem aCancel_o (T : Mem) (b : Int) (h : T 19 b < 4) {r : Nat} (p2 : r ≠ 20) (q0 : r ≠ 21) (q1 : r ≠ 22) (q2 : r ≠ 17) (q3 : r ≠ 34) (q4 : r ≠ 35) (q5 : r ≠ 41) (q6 : r < 11 ∨ 15 ≤ r) : aCancel T b r = T r := by
  unfold aCancel
  rw [aRel_o _ _ q0 q1 q2 q3 q4 q5 q6 (by rw [mw_rn _ _ _ (by decide)]; exact h), mw_rn _ _ _ p2]
/-- the first round: none is to move to the failed link -/
theorem AI_can {S : Mem} {lo : Int → Int} {l : Int} (h : AI S lo l) (l0 : 0 ≤ l) (hd : S 9 l = 0) : ∀ k : Nat, k ≤ 8 → AI (aCan S l k) lo l ∧ aCan S l k 19 = S 19 ∧ aCan S l k 9 = S 9 ∧ aCan S l k 1 = S 1 ∧ aCan S l k 5 = S 5 ∧ (∀ b : Int, 0 ≤ b → b < k → aCan S l k 20 b ≠ l)
  | 0, _ => ⟨h, rfl, rfl, rfl, rfl, fun b b0 b1 => by omega⟩
  | k + 1, hk => by
    obtain ⟨i1, i2, i3, i4, i5, i6⟩ := AI_can h l0 hd k (by omega)
    have hbk := AI_bk i1 k
    have hJ := i1.2.2.1 k
    unfold aCan
    dsimp only
    split
    · rename_i hc
      have hu : aCan S l k 19 k = -6 ∨ aCan S l k 9 (aCan S l k 19 k) = 1 := by
        rcases hJ.1 with q | ⟨q1, q2, q3 | q3⟩
        · exact Or.inl q
        · exact Or.inr q3
        · rcases hJ.2.1 with w | w
          · omega
          · have := w.2.2.2.2
            omega
      refine ⟨AI_cancel i1 hu, ?_, ?_, ?_, ?_, fun b b0 b1 => ?_⟩
      · rw [aCancel_19 _ _ (by omega)]; exact i2
      · rw [aCancel_o _ _ (by omega) (by decide) (by decide) (by decide) (by decide) (by decide) (by decide) (by decide) (by omega)]; exact i3
      · rw [aCancel_o _ _ (by omega) (by decide) (by decide) (by decide) (by decide) (by decide) (by decide) (by decide) (by omega)]; exact i4
      · rw [aCancel_o _ _ (by omega) (by decide) (by decide) (by decide) (by decide) (by decide) (by decide) (by decide) (by omega)]; exact i5
      · rw [aCancel_20 _ _ (by omega), up1_e]
        split
        · omega
        · exact i6 b b0 (by omega)
    · rename_i hc
      refine ⟨i1, i2, i3, i4, i5, fun b b0 b1 => ?_⟩
      by_cases e : b = k
      · subst e; exact hc
      · exact i6 b b0 (by omega)
theorem aReach_19 (S : Mem) (b l : Int) (hl : l < 4) : aReach S b l 19 = up1 (S 19) b l := by
  unfold aReach
  rw [aRel_o _ _ (by decide) (by decide) (by decide) (by decide) (by decide) (by decide) (by omega) (by rw [aRch0_19, up1_s]; exact hl), aRch0_19]
theorem aReach_20 (S : Mem) (b l : Int) (hl : l < 4) : aReach S b l 20 = up1 (S 20) b (-6) := by
  unfold aReach
  rw [aRel_o _ _ (by decide) (by decide) (by decide) (by decide) (by decide) (by decide) (by omega) (by rw [aRch0_19, up1_s]; exact hl), aRch0_20]
/-- a bucket that has no goal of its own settles where it is -/
theorem aSettle_19 {S : Mem} {lo : Int → Int} {x b : Int} (h : AI S lo x) (ht : S 20 b = -6) : aSettle S b 19 = S 19 ∧ aSettle S b 20 = S 20 := by
  have hg : goal S b = S 19 b := by unfold goal; rw [if_pos ht]
  have hgl := goal_lt (b := b) h
  unfold aSettle
  split
  · rw [aReach_19 _ _ _ hgl, aReach_20 _ _ _ hgl, hg, up1_id]
    refine ⟨rfl, ?_⟩
    rw [← ht, up1_id]
  · exact ⟨rfl, rfl⟩
theorem AI_mv2 {T : Mem} {lo : Int → Int} {l b k : Int} (h : AI T lo l) (b0 : 0 ≤ b) (b8 : b < 8) (l0 : 0 ≤ l) (hd : T 9 l = 0) (hK : upF (mw T 20 b (-6)) (T 1 0).toNat = k) :
    AI (mw (mw (mw T 20 b (-6)) 19 b k) 21 b (if k = -6 then 0 else 1)) lo l ∧ (goal (mw (mw (mw T 20 b (-6)) 19 b k) 21 b (if k = -6 then 0 else 1)) b ≠ -6 → mw (mw (mw T 20 b (-6)) 19 b k) 21 b (if k = -6 then 0 else 1) 9 (goal (mw (mw (mw T 20 b (-6)) 19 b k) 21 b (if k = -6 then 0 else 1)) b) = 1 ∧ mw (mw (mw T 20 b (-6)) 19 b k) 21 b (if k = -6 then 0 else 1) 19 b ≠ -6) := by
  have h1 := AI_to0 (b := b) h
  have hL := h.1.1
  have hk := upF_in (mw T 20 b (-6)) (T 1 0).toNat
  have hr : ∀ r, r ≠ 20 → mw T 20 b (-6) r = T r := fun r a => mw_rn _ _ _ a
  rw [hr 9 (by decide), hK] at hk
  have h2 : AI (mw (mw (mw T 20 b (-6)) 19 b k) 21 b (if k = -6 then 0 else 1)) lo l := by
    refine AI_b h1 (fun r a1 a2 a3 a4 => by rw [mw_rn _ _ _ a3, mw_rn _ _ _ a1]) ?_ ?_ ?_
    · have hJ := h1.2.2.1
      simp only [mw_rs, mw_rn, ne_eq, not_false_eq_true, Nat.reduceEqDiff, Nat.reduceLT, Nat.reduceLeDiff, true_or, or_true, forall_const] at hJ ⊢
      intro c
      obtain ⟨g1, g2, g3, g4, g5⟩ := hJ c
      by_cases e : c = b
      · subst e
        simp only [up1_s] at g1 g2 g3 g4 g5 ⊢
        refine ⟨?_, Or.inl trivial, ?_, ?_, fun q => by omega⟩
        · rcases hk with q | q
          · exact Or.inl q
          · exact Or.inr ⟨q.1, by omega, Or.inl q.2.2⟩
        · split
          · exact Or.inl rfl
          · exact Or.inr rfl
        · split
          · exact fun q => by omega
          · exact fun _ => by assumption
      · simp only [up1_n _ _ e] at g1 g2 g3 g4 g5 ⊢
        exact ⟨g1, g2, g3, g4, g5⟩
    · have hJ := h1.2.2.2.1
      simp only [mw_rs, mw_rn, ne_eq, not_false_eq_true, Nat.reduceEqDiff, Nat.reduceLT, Nat.reduceLeDiff, true_or, or_true, forall_const] at hJ ⊢
      intro hy hx c c0 c8
      rw [up1_e]
      split
      · obtain ⟨l2, hl2⟩ := hx
        have hl3 := AI_up h hl2
        rw [← hK]
        exact upF_some (by rw [hr 9 (by decide)]; exact hl2) hl3.1 _ (by omega)
      · exact hJ hy hx c c0 c8
    · have hJ := h1.2.2.2.2.1
      simp only [mw_rs, mw_rn, ne_eq, not_false_eq_true, Nat.reduceEqDiff, Nat.reduceLT, Nat.reduceLeDiff, true_or, or_true, forall_const] at hJ ⊢
      intro i i0 i1 i2
      by_cases e : T 33 i = b
      · rw [e]
        simp only [up1_s]
        by_cases e2 : k = -6
        · exact Or.inr e2
        · left; rw [if_neg e2]
      · rw [up1_n _ _ e, up1_n _ _ e]
        exact hJ i i0 i1 i2
  have t20 : mw (mw (mw T 20 b (-6)) 19 b k) 21 b (if k = -6 then 0 else 1) 20 = up1 (T 20) b (-6) := by simp only [mw_rs, mw_rn, ne_eq, not_false_eq_true, Nat.reduceEqDiff, Nat.reduceLT, Nat.reduceLeDiff, true_or, or_true, forall_const]
  have t19 : mw (mw (mw T 20 b (-6)) 19 b k) 21 b (if k = -6 then 0 else 1) 19 = up1 (T 19) b k := by simp only [mw_rs, mw_rn, ne_eq, not_false_eq_true, Nat.reduceEqDiff, Nat.reduceLT, Nat.reduceLeDiff, true_or, or_true, forall_const]
  have t9 : mw (mw (mw T 20 b (-6)) 19 b k) 21 b (if k = -6 then 0 else 1) 9 = T 9 := by simp only [mw_rn, ne_eq, not_false_eq_true, Nat.reduceEqDiff, Nat.reduceLT, Nat.reduceLeDiff, true_or, or_true, forall_const]
  refine ⟨h2, fun hg => ?_⟩
  have hg2 : goal (mw (mw (mw T 20 b (-6)) 19 b k) 21 b (if k = -6 then 0 else 1)) b = k := by
    unfold goal
    rw [t20, up1_s, if_pos rfl, t19, up1_s]
  rw [hg2] at hg ⊢
  rw [t9, t19, up1_s]
  rcases hk with q | q
  · exact absurd q hg
  · exact ⟨q.2.2, hg⟩
theorem AI_mv1 {T : Mem} {lo : Int → Int} {l b : Int} (h : AI T lo l) (b0 : 0 ≤ b) (b8 : b < 8) (l0 : 0 ≤ l) (hd : T 9 l = 0) (hon : T 19 b = l) :
    AI (aMv1 T b) lo l ∧ aMv1 T b 19 = up1 (T 19) b (upF (mw T 20 b (-6)) (T 1 0).toNat) ∧ aMv1 T b 20 = up1 (T 20) b (-6) ∧ aMv1 T b 9 = T 9 ∧ aMv1 T b 1 = T 1 ∧ aMv1 T b 5 = T 5 := by
  have hr : ∀ r, r ≠ 20 → mw T 20 b (-6) r = T r := fun r a => mw_rn _ _ _ a
  unfold aMv1
  dsimp only
  rw [hr 1 (by decide)]
  generalize hK : upF (mw T 20 b (-6)) (T 1 0).toNat = k
  obtain ⟨h2, hg⟩ := AI_mv2 h b0 b8 l0 hd hK
  have t20 : mw (mw (mw T 20 b (-6)) 19 b k) 21 b (if k = -6 then 0 else 1) 20 = up1 (T 20) b (-6) := by simp only [mw_rs, mw_rn, ne_eq, not_false_eq_true, Nat.reduceEqDiff, Nat.reduceLT, Nat.reduceLeDiff, true_or, or_true, forall_const]
  have t19 : mw (mw (mw T 20 b (-6)) 19 b k) 21 b (if k = -6 then 0 else 1) 19 = up1 (T 19) b k := by simp only [mw_rs, mw_rn, ne_eq, not_false_eq_true, Nat.reduceEqDiff, Nat.reduceLT, Nat.reduceLeDiff, true_or, or_true, forall_const]
  have t9 : mw (mw (mw T 20 b (-6)) 19 b k) 21 b (if k = -6 then 0 else 1) 9 = T 9 := by simp only [mw_rn, ne_eq, not_false_eq_true, Nat.reduceEqDiff, Nat.reduceLT, Nat.reduceLeDiff, true_or, or_true, forall_const]
  have hs := aSettle_19 (b := b) h2 (by rw [t20, up1_s])
  refine ⟨AI_settle h2 b0 b8 hg, ?_, ?_, ?_, ?_, ?_⟩
  · rw [hs.1, t19]
  · rw [hs.2, t20]
  · rw [aSettle_o h2 _ (by decide) (by decide) (by decide) (by decide) (by decide) (by decide) (by decide) (by decide) (by decide) (by omega), t9]
  · rw [aSettle_o h2 _ (by decide) (by decide) (by decide) (by decide) (by decide) (by decide) (by decide) (by decide) (by decide) (by omega)]; simp only [mw_rn, ne_eq, not_false_eq_true, Nat.reduceEqDiff, Nat.reduceLT, Nat.reduceLeDiff, true_or, or_true, forall_const]
  · rw [aSettle_o h2 _ (by decide) (by decide) (by decide) (by decide) (by decide) (by decide) (by decide) (by decide) (by decide) (by omega)]; simp only [mw_rn, ne_eq, not_false_eq_true, Nat.reduceEqDiff, Nat.reduceLT, Nat.reduceLeDiff, true_or, or_true, forall_const]
theorem AI_mvs {S : Mem} {lo : Int → Int} {l : Int} (h : AI S lo l) (l0 : 0 ≤ l) (hd : S 9 l = 0) (ht : ∀ b, 0 ≤ b → b < 8 → S 20 b ≠ l) : ∀ k : Nat, k ≤ 8 → AI (aMvs S l k) lo l ∧ aMvs S l k 9 = S 9 ∧ aMvs S l k 1 = S 1 ∧ aMvs S l k 5 = S 5 ∧ (∀ b : Int, 0 ≤ b → b < 8 → aMvs S l k 20 b ≠ l) ∧ (∀ b : Int, 0 ≤ b → b < k → aMvs S l k 19 b ≠ l)
  | 0, _ => ⟨h, rfl, rfl, rfl, ht, fun b b0 b1 => by omega⟩
  | k + 1, hk => by
    obtain ⟨i1, i2, i3, i4, i5, i6⟩ := AI_mvs h l0 hd ht k (by omega)
    unfold aMvs
    dsimp only
    split
    · rename_i hc
      obtain ⟨j1, j2, j3, j4, j5, j6⟩ := AI_mv1 i1 (b := k) (by omega) (by omega) l0 (by rw [i2]; exact hd) hc
      refine ⟨j1, by rw [j4, i2], by rw [j5, i3], by rw [j6, i4], fun b b0 b1 => ?_, fun b b0 b1 => ?_⟩
      · rw [j3, up1_e]
        split
        · omega
        · exact i5 b b0 b1
      · rw [j2, up1_e]
        split
        · rcases upF_in (mw (aMvs S l k) 20 k (-6)) (aMvs S l k 1 0).toNat with q | q
          · omega
          · intro e
            have := q.2.2
            rw [e, mw_rn _ _ _ (by decide), i2, hd] at this
            omega
        · exact i6 b b0 (by omega)
    · rename_i hc
      refine ⟨i1, i2, i3, i4, i5, fun b b0 b1 => ?_⟩
      by_cases e : b = k
      · subst e; exact hc
      · exact i6 b b0 (by omega)
theorem NI_fail {S : Mem} {l : Int} (h : NI S) (hu : S 9 l = 1) : NI (aFail S l) := by
  obtain ⟨l0, lL, l4⟩ := AI_up h hu
  have h1 := AI_down h hu
  have e9 : aLose (mw S 9 l 0) l 9 l = 0 := by rw [mw_lose, mw_rs, up1_s]
  have e5 : aLose (mw S 9 l 0) l 5 = S 5 := by rw [mw_lose, mw_rn _ _ _ (by decide)]; exact aLoK_o S l (by decide) (by decide) (by decide) (by decide) (by decide) (by decide) _
  obtain ⟨c1, c2, c3, c4, c5, c6⟩ := AI_can h1 l0 e9 8 (by omega)
  obtain ⟨m1, m2, m3, m4, m5, m6⟩ := AI_mvs c1 l0 (by rw [c3]; exact e9) (fun b b0 b8 => c6 b b0 (by omega)) 8 (by omega)
  refine NI_of (S := S) (AI_x m1 (fun b => ?_) (fun _ => m1.2.2.2.1 (by omega))) ?_
  · have hJ := m1.2.2.1 b
    by_cases hb : 0 ≤ b ∧ b < 8
    · exact ⟨fun q => absurd q (m6 b hb.1 (by omega)), fun q => absurd q (m5 b hb.1 hb.2)⟩
    · obtain ⟨t1, t2⟩ := hJ.2.2.2.2 (by omega)
      refine ⟨fun q => ?_, fun q => ?_⟩
      · have : l = -6 := q.symm.trans t1
        omega
      · have : l = -6 := q.symm.trans t2
        omega
  · show aMvs (aCan (aLose (mw S 9 l 0) l) l 8) l 8 5 = S 5
    rw [m4, c5, e5]
