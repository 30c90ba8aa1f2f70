/-! Larger steps: what leaves, arrives, comes out; held letters let go; buckets settled. -/
theorem mw_comm (S : Mem) {r r' : Nat} (i v i' v' : Int) (h : r ≠ r') : mw (mw S r i v) r' i' v' = mw (mw S r' i' v') r i v := by
  funext a b
  simp only [mw]
  by_cases h1 : a = r
  · subst h1
    simp [h]
  · simp [h1]
def Ex (X : List Nat) (M S : Mem) : Prop := ∀ r, r ∉ X → M r = S r
theorem Ex.rf {X : List Nat} {M : Mem} : Ex X M M := fun _ _ => rfl
theorem Ex.w {X : List Nat} {M S : Mem} (h : Ex X M S) {r : Nat} {i v i' v' : Int} (hi : i = i') (hv : v = v') : Ex X (mw M r i v) (mw S r i' v') := by
  subst hi; subst hv
  intro q hq
  by_cases e : q = r
  · subst e
    rw [mw_rs, mw_rs, h q hq]
  · rw [mw_rn _ _ _ e, mw_rn _ _ _ e, h q hq]
theorem Ex.skip {X : List Nat} {M S : Mem} (h : Ex X M S) {r : Nat} {i v : Int} (hr : r ∈ X) : Ex X M (mw S r i v) := by
  intro q hq
  rw [mw_rn _ _ _ (fun e => hq (by rw [e]; exact hr)), h q hq]
theorem Ex.skip1 {X : List Nat} {M S : Mem} (h : Ex X M S) {r : Nat} {i v : Int} (hr : r ∈ X) : Ex X (mw M r i v) S := by
  intro q hq
  rw [mw_rn _ _ _ (fun e => hq (by rw [e]; exact hr)), h q hq]
theorem Ex.turn {X : List Nat} {M S : Mem} (h : Ex X M S) (h34 : 34 ∉ X) (h41 : 41 ∉ X) {i i' s : Int} (hi : i = i') : Ex X (aTurn M i s) (aTurn S i' s) := by
  subst hi
  have e1 : M 34 = S 34 := h 34 h34
  have e2 : M 41 = S 41 := h 41 h41
  intro q hq
  by_cases a : q = 34
  · subst a; rw [aTurn_34, aTurn_34, e1]
  · by_cases b : q = 41
    · subst b; rw [aTurn_41, aTurn_41, e1, e2]
    · rw [aTurn_o _ _ _ a b, aTurn_o _ _ _ a b, h q hq]
theorem Ex.note {X : List Nat} {M S : Mem} (h : Ex X M S) (h27 : 27 ∉ X) (h29 : 29 ∉ X) (h30 : 30 ∉ X) {f p : Int} : Ex X (aNote M f p) (aNote S f p) := by
  intro q hq
  by_cases a : q = 27
  · subst a; rw [aNote_27, aNote_27, h 27 h27]
  · by_cases b : q = 29
    · subst b; rw [aNote_29, aNote_29, h 29 h29]
    · by_cases c : q = 30
      · subst c; rw [aNote_30, aNote_30, h 29 h29, h 30 h30]
      · rw [aNote_o _ _ _ a b c, aNote_o _ _ _ a b c, h q hq]
theorem Ex.out {X : List Nat} {M S : Mem} (h : Ex X M S) (hX : ∀ r ∈ X, r ≤ 23 ∧ r ≠ 5) {i i' : Int} (hi : i = i') : Ex X (aLetOut M i) (aLetOut S i') := by
  subst hi
  have k : ∀ r, ¬ r ≤ 23 ∨ r = 5 → r ∉ X := fun r hr hq => by have := hX r hq; omega
  unfold aLetOut
  rw [h 31 (k _ (by omega)), h 32 (k _ (by omega))]
  exact Ex.note (Ex.w (Ex.turn (Ex.w h (by rw [h 41 (k _ (by omega))]) rfl) (k _ (by omega)) (k _ (by omega)) rfl) rfl (by rw [h 5 (k _ (by omega))])) (k _ (by omega)) (k _ (by omega)) (k _ (by omega))
theorem Ex.all {M S : Mem} (h : Ex [] M S) : M = S := mem_ext (fun r => h r (by simp))
/-! leaving -/
def aLvK (S : Mem) (l : Int) : Nat → Mem
  | 0 => S
  | k + 1 => aLeave1 (aLvK S l k) l
theorem aLeave1_o (S : Mem) (l : Int) {r : Nat} (q1 : r ≠ 37) (q2 : r ≠ 38) (q3 : r ≠ 34) (q4 : r ≠ 41) (q5 : r ≠ 16) (q6 : r ≠ 18) : aLeave1 S l r = S r := by
  unfold aLeave1
  rw [mw_rn _ _ _ q6, mw_rn _ _ _ q5, aTurn_o _ _ _ q3 q4, mw_rn _ _ _ q2, mw_rn _ _ _ q1]
theorem aLeave1_16 (S : Mem) (l : Int) : aLeave1 S l 16 = up1 (S 16) l (S 16 l + 1) := by
  unfold aLeave1
  rw [mw_rn _ _ _ (by decide), mw_rs, aTurn_o _ _ _ (by decide) (by decide), mw_rn _ _ _ (by decide), mw_rn _ _ _ (by decide)]
theorem aLeave1_18 (S : Mem) (l : Int) : aLeave1 S l 18 = up1 (S 18) l (S 18 l + 1) := by
  unfold aLeave1
  rw [mw_rs, mw_rn _ _ _ (by decide), aTurn_o _ _ _ (by decide) (by decide), mw_rn _ _ _ (by decide), mw_rn _ _ _ (by decide)]
theorem aLvK_o (S : Mem) (l : Int) {r : Nat} (q1 : r ≠ 37) (q2 : r ≠ 38) (q3 : r ≠ 34) (q4 : r ≠ 41) (q5 : r ≠ 16) (q6 : r ≠ 18) : ∀ k, aLvK S l k r = S r
  | 0 => rfl
  | k + 1 => by rw [aLvK, aLeave1_o _ _ q1 q2 q3 q4 q5 q6, aLvK_o S l q1 q2 q3 q4 q5 q6 k]
theorem aLvK_16 (S : Mem) (l : Int) : ∀ k : Nat, aLvK S l k 16 = up1 (S 16) l (S 16 l + k)
  | 0 => by simp only [aLvK]; rw [show S 16 l + ((0 : Nat) : Int) = S 16 l by omega, up1_id]
  | k + 1 => by
    rw [aLvK, aLeave1_16, aLvK_16 S l k, up1_up1, up1_s]
    congr 1
    push_cast
    omega
theorem aLvK_18 (S : Mem) (l : Int) : ∀ k : Nat, aLvK S l k 18 = up1 (S 18) l (S 18 l + k)
  | 0 => by simp only [aLvK]; rw [show S 18 l + ((0 : Nat) : Int) = S 18 l by omega, up1_id]
  | k + 1 => by
    rw [aLvK, aLeave1_18, aLvK_18 S l k, up1_up1, up1_s]
    congr 1
    push_cast
    omega
theorem AI_lvK {S : Mem} {lo : Int → Int} {x l : Int} (h : AI S lo x) (hu : S 9 l = 1) (hlo : lo l < S 5 0 + S 8 l) : ∀ k : Nat, (k : Int) ≤ S 17 l - S 16 l → AI (aLvK S l k) lo x
  | 0, _ => h
  | k + 1, hk => by
    refine AI_leave1 (AI_lvK h hu hlo k (by omega)) ?_ ?_ ?_
    · rw [aLvK_o S l (by decide) (by decide) (by decide) (by decide) (by decide) (by decide)]; exact hu
    · rw [aLvK_16, up1_s, aLvK_o S l (by decide) (by decide) (by decide) (by decide) (by decide) (by decide)]; omega
    · rw [aLvK_o S l (by decide) (by decide) (by decide) (by decide) (by decide) (by decide), aLvK_o S l (by decide) (by decide) (by decide) (by decide) (by decide) (by decide)]; exact hlo
def lvN (S : Mem) (l : Int) : Nat := (if S 17 l < S 16 l + S 7 l then S 17 l - S 16 l else S 7 l).toNat
def aLv (S : Mem) (l : Int) : Mem := if S 9 l = 0 then S else aLvK S l (lvN S l)
def aLvs (S : Mem) : Nat → Mem
  | 0 => S
  | k + 1 => aLv (aLvs S k) k
theorem aLv_o (S : Mem) (l : Int) {r : Nat} (q1 : r ≠ 37) (q2 : r ≠ 38) (q3 : r ≠ 34) (q4 : r ≠ 41) (q5 : r ≠ 16) (q6 : r ≠ 18) : aLv S l r = S r := by
  unfold aLv
  split
  · rfl
  · exact aLvK_o S l q1 q2 q3 q4 q5 q6 _
theorem aLvs_o (S : Mem) {r : Nat} (q1 : r ≠ 37) (q2 : r ≠ 38) (q3 : r ≠ 34) (q4 : r ≠ 41) (q5 : r ≠ 16) (q6 : r ≠ 18) : ∀ k, aLvs S k r = S r
  | 0 => rfl
  | k + 1 => by rw [aLvs, aLv_o _ _ q1 q2 q3 q4 q5 q6, aLvs_o S q1 q2 q3 q4 q5 q6 k]
theorem lvN_le {S : Mem} {lo : Int → Int} {x l : Int} (h : AI S lo x) (l0 : 0 ≤ l) (l4 : l < 4) : ((lvN S l : Nat) : Int) ≤ S 17 l - S 16 l := by
  obtain ⟨ha, hl, hb, hn, hh, hf, ht, ks, kh, kf, kl, hq, hi, ho⟩ := h
  have h1 := (hq l l0 l4).1
  have h2 := hl.2.2 l
  unfold lvN
  split <;> omega
theorem AI_lv {S : Mem} {lo : Int → Int} {x l : Int} (h : AI S lo x) (hlo : lo l < S 5 0) : AI (aLv S l) lo x := by
  unfold aLv
  split
  · exact h
  · rename_i hu
    have hu : S 9 l = 1 := by
      rcases h.2.1.2.1 l with q | q
      · exact absurd q hu
      · exact q.1
    obtain ⟨l0, lL, l4⟩ := AI_up h hu
    have := h.2.1.2.2 l
    exact AI_lvK h hu (by omega) _ (lvN_le h l0 l4)
theorem AI_lvs {S : Mem} {lo : Int → Int} {x : Int} (h : AI S lo x) (hlo : ∀ l, lo l < S 5 0) : ∀ k, AI (aLvs S k) lo x
  | 0 => h
  | k + 1 => AI_lv (AI_lvs h hlo k) (by rw [aLvs_o S (by decide) (by decide) (by decide) (by decide) (by decide) (by decide)]; exact hlo _)
/-! arriving -/
def aArF (l : Int) : Nat → Mem → Mem
  | 0, S => S
  | k + 1, S => if S 15 l < S 16 l ∧ S 38 (qr S l (S 15 l)) = S 5 0 then aArF l k (aArr1 S l) else S
def aAr (S : Mem) (l : Int) : Mem := aArF l (S 16 l - S 15 l).toNat S
def aArs (S : Mem) : Nat → Mem
  | 0 => S
  | k + 1 => aAr (aArs S k) k
theorem aArr1_15 (S : Mem) (l : Int) : aArr1 S l 15 = up1 (S 15) l (S 15 l + 1) := by
  unfold aArr1
  rw [mw_rs]
  split
  · rw [aLetOut_o _ _ (by decide) (by decide) (by decide) (by decide) (by decide) (by decide) (by decide)]
  · rw [aTurn_o _ _ _ (by decide) (by decide)]
theorem aArr1_o (S : Mem) (l : Int) {r : Nat} (h0 : r ≠ 15) (h1 : r ≠ 27) (h2 : r ≠ 29) (h3 : r ≠ 30) (h4 : r ≠ 39) (h5 : r ≠ 34) (h6 : r ≠ 41) (h7 : r ≠ 40) : aArr1 S l r = S r := by
  unfold aArr1
  rw [mw_rn _ _ _ h0]
  split
  · rw [aLetOut_o _ _ h1 h2 h3 h4 h5 h6 h7]
  · rw [aTurn_o _ _ _ h5 h6]
theorem aArF_o (l : Int) {r : Nat} (h0 : r ≠ 15) (h1 : r ≠ 27) (h2 : r ≠ 29) (h3 : r ≠ 30) (h4 : r ≠ 39) (h5 : r ≠ 34) (h6 : r ≠ 41) (h7 : r ≠ 40) : ∀ k S, aArF l k S r = S r
  | 0, _ => rfl
  | k + 1, S => by
    unfold aArF
    split
    · rw [aArF_o l h0 h1 h2 h3 h4 h5 h6 h7 k, aArr1_o _ _ h0 h1 h2 h3 h4 h5 h6 h7]
    · rfl
theorem aArs_o (S : Mem) {r : Nat} (h0 : r ≠ 15) (h1 : r ≠ 27) (h2 : r ≠ 29) (h3 : r ≠ 30) (h4 : r ≠ 39) (h5 : r ≠ 34) (h6 : r ≠ 41) (h7 : r ≠ 40) : ∀ k, aArs S k r = S r
  | 0 => rfl
  | k + 1 => by rw [aArs, aAr, aArF_o _ h0 h1 h2 h3 h4 h5 h6 h7, aArs_o S h0 h1 h2 h3 h4 h5 h6 h7 k]
theorem aArF_15 (l : Int) {j : Int} (hj : j ≠ l) : ∀ k S, aArF l k S 15 j = S 15 j
  | 0, _ => rfl
  | k + 1, S => by
    unfold aArF
    split
    · rw [aArF_15 l hj k, aArr1_15, up1_n _ _ hj]
    · rfl
theorem AI_arF {lo : Int → Int} {x l : Int} (l0 : 0 ≤ l) (l4 : l < 4) : ∀ k S, AI S lo x → AI (aArF l k S) lo x
  | 0, _, h => h
  | k + 1, S, h => by
    unfold aArF
    split
    · rename_i hc
      exact AI_arF l0 l4 k _ (AI_arr1 h l0 l4 hc.1)
    · exact h
/-- none of those on this link's way arrives now -/
theorem arF_end {lo : Int → Int} {x l : Int} (l0 : 0 ≤ l) (l4 : l < 4) : ∀ k S, AI S lo x → (S 16 l - S 15 l).toNat = k → ¬ (aArF l k S 15 l < aArF l k S 16 l ∧ aArF l k S 38 (qr (aArF l k S) l (aArF l k S 15 l)) = aArF l k S 5 0)
  | 0, S, h, hk => by
    unfold aArF
    omega
  | k + 1, S, h, hk => by
    by_cases hc : S 15 l < S 16 l ∧ S 38 (qr S l (S 15 l)) = S 5 0
    · have e : aArF l (k + 1) S = aArF l k (aArr1 S l) := by rw [aArF, if_pos hc]
      rw [e]
      refine arF_end l0 l4 k _ (AI_arr1 h l0 l4 hc.1) ?_
      rw [aArr1_15, up1_s, aArr1_o _ _ (by decide) (by decide) (by decide) (by decide) (by decide) (by decide) (by decide) (by decide)]
      omega
    · have e : aArF l (k + 1) S = S := by rw [aArF, if_neg hc]
      rw [e]
      exact hc
theorem AI_lo {S : Mem} {lo lo' : Int → Int} {x : Int} (h : AI S lo x) (h2 : ∀ l, 0 ≤ l → l < 4 → lo' l = lo l ∨ ∀ p, S 15 l ≤ p → p < S 16 l → lo' l < S 38 (qr S l p)) : AI S lo' x := by
  obtain ⟨ha, hl, hb, hn, hh, hf, ht, ks, kh, kf, kl, hq, hi, ho⟩ := h
  refine ⟨ha, hl, hb, hn, hh, hf, ht, ks, kh, kf, kl, ?_, hi, ho⟩
  intro l l0 l4
  obtain ⟨q1, q4, q5, q6, q7⟩ := hq l l0 l4
  refine ⟨q1, fun p p0 p1 => ?_, q5, q6, q7⟩
  obtain ⟨g1, g2, g3, g4⟩ := q4 p p0 p1
  refine ⟨g1, g2, fun a b => ?_, g4⟩
  obtain ⟨w1, w2, w3⟩ := g3 a b
  refine ⟨w1, ?_, w3⟩
  rcases h2 l l0 l4 with e | e
  · rw [e]; exact w2
  · exact e p a b
theorem AI_ar {S : Mem} {lo : Int → Int} {x l : Int} (h : AI S lo x) (l0 : 0 ≤ l) (l4 : l < 4) (hlo : lo l = S 5 0 - 1) : AI (aAr S l) (up1 lo l (S 5 0)) x := by
  have h1 : AI (aAr S l) lo x := AI_arF l0 l4 _ _ h
  have h2 := arF_end l0 l4 _ _ h rfl
  have e5 : aAr S l 5 = S 5 := aArF_o l (by decide) (by decide) (by decide) (by decide) (by decide) (by decide) (by decide) (by decide) _ _
  refine AI_lo h1 (fun l' a b => ?_)
  by_cases e : l' = l
  · subst e
    right
    intro p p0 p1
    rw [up1_s]
    obtain ⟨q1, q4, q5, q6, q7⟩ := h1.2.2.2.2.2.2.2.2.2.2.2.1 l' a b
    have h3 := q6 (aAr S l' 15 l') p (Int.le_refl _) p0 p1
    obtain ⟨-, -, g3, -⟩ := q4 (aAr S l' 15 l') q1.1 (by omega)
    have h4 := (g3 (Int.le_refl _) (by omega)).2.1
    have h5 : ¬ (aAr S l' 15 l' < aAr S l' 16 l' ∧ aAr S l' 38 (qr (aAr S l') l' (aAr S l' 15 l')) = aAr S l' 5 0) := h2
    rw [e5] at h5
    have h6 : aAr S l' 15 l' < aAr S l' 16 l' := by omega
    have h7 : ¬ aAr S l' 38 (qr (aAr S l') l' (aAr S l' 15 l')) = S 5 0 := fun q => h5 ⟨h6, q⟩
    omega
  · left
    rw [up1_n _ _ e]

/-- all links: none that is on its way arrives now or before -/
theorem AI_ars {S : Mem} {x : Int} (h : AI S (fun _ => S 5 0 - 1) x) : ∀ k : Nat, k ≤ 4 → AI (aArs S k) (fun l => if l < k then S 5 0 else S 5 0 - 1) x
  | 0, _ => AI_lo h (fun l a b => Or.inl (by rw [if_neg (by omega)]))
  | k + 1, hk => by
    have e5 : aArs S k 5 = S 5 := aArs_o S (by decide) (by decide) (by decide) (by decide) (by decide) (by decide) (by decide) (by decide) k
    have h1 := AI_ar (l := k) (AI_ars h k (by omega)) (by omega) (by omega) (by rw [e5]; simp)
    refine AI_lo h1 (fun l a b => Or.inl ?_)
    rw [e5]
    simp only [up1]
    push_cast
    by_cases e : l = k
    · rw [if_pos (by omega), if_pos e]
    · rw [if_neg e]
      by_cases e2 : l < k
      · rw [if_pos (by omega), if_pos e2]
      · rw [if_neg (by omega), if_neg e2]
/-- nothing stands at links that aren't -/
theorem AI_nolink {S : Mem} {lo : Int → Int} {x l : Int} (h : AI S lo x) (l0 : S 1 0 ≤ l) (l4 : l < 4) : S 17 l = 0 ∧ S 16 l = 0 ∧ S 15 l = 0 := by
  obtain ⟨ha, hl, hb, hn, hh, hf, ht, ks, kh, kf, kl, hq, hi, ho⟩ := h
  have hL := ha.1.1
  have h1 := (hq l (by omega) l4).1
  have h2 := (kl l (by omega) l4).1
  rw [ct_none (fun i i0 i1 => ?_)] at h2
  · omega
  · rcases hi i i0 (by omega) with q | q
    · simp; omega
    · simp; omega
theorem AI_ars2 {S : Mem} {x : Int} (h : AI S (fun _ => S 5 0 - 1) x) : AI (aArs S (S 1 0).toNat) (fun _ => S 5 0) x := by
  have hL := h.1.1
  have h1 := AI_ars h (S 1 0).toNat (by omega)
  have e1 : aArs S (S 1 0).toNat 1 = S 1 := aArs_o S (by decide) (by decide) (by decide) (by decide) (by decide) (by decide) (by decide) (by decide) _
  refine AI_lo h1 (fun l a b => ?_)
  by_cases e : l < S 1 0
  · left
    rw [if_pos (by omega)]
  · right
    intro p p0 p1
    have := AI_nolink h1 (l := l) (by rw [e1]; omega) b
    omega
/-! coming out in order -/
def bl0 (S : Mem) : Nat → Mem
  | 0 => S
  | k + 1 => mw (bl0 S k) 42 k 0
def aOutC (S : Mem) : Nat → Mem
  | 0 => S
  | k + 1 =>
    let T := aOutC S k
    if T 34 k = 3 ∧ T 42 (T 31 k) = 0 then aLetOut T k else if T 34 k ≠ 4 ∧ T 34 k ≠ 5 then mw T 42 (T 31 k) 1 else T
def aOuts (S : Mem) : Mem := if 0 < S 41 3 then aOutC (bl0 S 16) (S 4 0).toNat else S
theorem AI_scr {S T : Mem} {lo : Int → Int} {x : Int} (h : AI S lo x) (hr : ∀ r, r ≠ 42 → T r = S r) : AI T lo x := by
  have eq : ∀ l' p, 0 ≤ l' → l' < 4 → qr T l' p = qr S l' p := fun l' p a b => by
    show T (11 + l'.toNat) p = _
    rw [hr _ (by omega)]
  obtain ⟨ha, hl, hb, hn, hh, hf, ht, ks, kh, kf, kl, hq, hi, ho⟩ := h
  unfold AI Ja
  simp only [hr, ne_eq, not_false_eq_true, Nat.reduceEqDiff, Nat.reduceLT, Nat.reduceLeDiff, true_or, or_true, forall_const]
  exact ⟨ha, hl, hb, hn, hh, hf, ht, ks, kh, kf, kl, Jq_rw hq eq, Ji_rw hi ha.1.2 eq, ho⟩
theorem bl0_o (S : Mem) {r : Nat} (h : r ≠ 42) : ∀ k, bl0 S k r = S r
  | 0 => rfl
  | k + 1 => by rw [bl0, mw_rn _ _ _ h, bl0_o S h k]
theorem bl0_42 (S : Mem) : ∀ (k : Nat) (f : Int), 0 ≤ f → f < k → bl0 S k 42 f = 0
  | 0, f, a, b => by omega
  | k + 1, f, a, b => by
    rw [bl0, mw_rs, up1_e]
    split
    · rfl
    · exact bl0_42 S k f a (by omega)
theorem aOutC_o (S : Mem) {r : Nat} (h0 : r ≠ 42) (h1 : r ≠ 27) (h2 : r ≠ 29) (h3 : r ≠ 30) (h4 : r ≠ 39) (h5 : r ≠ 34) (h6 : r ≠ 41) (h7 : r ≠ 40) : ∀ k, aOutC S k r = S r
  | 0 => rfl
  | k + 1 => by
    unfold aOutC
    dsimp only
    split
    · rw [aLetOut_o _ _ h1 h2 h3 h4 h5 h6 h7, aOutC_o S h0 h1 h2 h3 h4 h5 h6 h7 k]
    · split
      · rw [mw_rn _ _ _ h0, aOutC_o S h0 h1 h2 h3 h4 h5 h6 h7 k]
      · rw [aOutC_o S h0 h1 h2 h3 h4 h5 h6 h7 k]
theorem AI_outC {S : Mem} {lo : Int → Int} {x : Int} (h : AI S lo x) : ∀ k : Nat, (k : Int) ≤ S 4 0 → AI (aOutC S k) lo x
  | 0, _ => h
  | k + 1, hk => by
    have ih := AI_outC h k (by omega)
    have e4 : aOutC S k 4 = S 4 := aOutC_o S (by decide) (by decide) (by decide) (by decide) (by decide) (by decide) (by decide) (by decide) k
    unfold aOutC
    dsimp only
    split
    · rename_i hc
      exact AI_out ih (by omega) (by rw [e4]; omega) hc.1
    · split
      · exact AI_scr ih (fun r hr => mw_rn _ _ _ hr)
      · exact ih
theorem AI_outs {S : Mem} {lo : Int → Int} {x : Int} (h : AI S lo x) : AI (aOuts S) lo x := by
  unfold aOuts
  split
  · refine AI_outC (AI_scr h (fun r hr => bl0_o S hr 16)) _ ?_
    rw [bl0_o S (by decide)]
    have := h.1.2.2.1
    omega
  · exact h
theorem aOuts_o (S : Mem) {r : Nat} (h0 : r ≠ 42) (h1 : r ≠ 27) (h2 : r ≠ 29) (h3 : r ≠ 30) (h4 : r ≠ 39) (h5 : r ≠ 34) (h6 : r ≠ 41) (h7 : r ≠ 40) : aOuts S r = S r := by
  unfold aOuts
  split
  · rw [aOutC_o _ h0 h1 h2 h3 h4 h5 h6 h7, bl0_o S h0]
  · rfl
