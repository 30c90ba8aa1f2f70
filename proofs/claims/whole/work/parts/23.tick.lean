/-! A bucket comes there; a tick. -/
def mayk (S : Mem) (b l : Int) : Nat → Bool
  | 0 => true
  | k + 1 => mayk S b l k && !(decide (S 33 k = b) && (decide (S 34 k = 1) || (decide (S 34 k = 2) && decide (S 5 0 + 1 + S 8 l ≤ S 38 k))))
def may (S : Mem) (b l : Int) : Bool := mayk S b l (S 4 0).toNat
def aRch0 (S : Mem) (b l : Int) : Mem := mw (mw (if S 20 b = -6 then S else mw S 23 b (S 23 b + 1)) 20 b (-6)) 19 b l
def aReach (S : Mem) (b l : Int) : Mem := aRel (aRch0 S b l) b
def goal (S : Mem) (b : Int) : Int := if S 20 b = -6 then S 19 b else S 20 b
def aSettle (S : Mem) (b : Int) : Mem := if goal S b ≠ -6 ∧ may S b (goal S b) = true then aReach S b (goal S b) else S
def aSets (S : Mem) : Nat → Mem
  | 0 => S
  | k + 1 =>
    let T := aSets S k
    if T 20 k ≠ -6 ∨ T 21 k ≠ 0 then aSettle T k else T
def aTick (S : Mem) : Mem := aSets (aOuts (aArs (aLvs (mw S 5 0 (S 5 0 + 1)) (S 1 0).toNat) (S 1 0).toNat)) 8
def NI (S : Mem) : Prop := AI S (fun _ => S 5 0) (-1)
theorem aRch0_19 (S : Mem) (b l : Int) : aRch0 S b l 19 = up1 (S 19) b l := by
  unfold aRch0
  rw [mw_rs, mw_rn _ _ _ (by decide)]
  split
  · rfl
  · rw [mw_rn _ _ _ (by decide)]
theorem aRch0_20 (S : Mem) (b l : Int) : aRch0 S b l 20 = up1 (S 20) b (-6) := by
  unfold aRch0
  rw [mw_rn _ _ _ (by decide), mw_rs]
  split
  · rfl
  · rw [mw_rn _ _ _ (by decide)]
theorem aRch0_o (S : Mem) (b l : Int) {r : Nat} (h1 : r ≠ 19) (h2 : r ≠ 20) (h3 : r ≠ 23) : aRch0 S b l r = S r := by
  unfold aRch0
  rw [mw_rn _ _ _ h1, mw_rn _ _ _ h2]
  split
  · rfl
  · rw [mw_rn _ _ _ h3]
theorem AI_rch0 {S : Mem} {lo : Int → Int} {x b l : Int} (h : AI S lo x) (b0 : 0 ≤ b) (b8 : b < 8) (hu : S 9 l = 1) (hon : S 19 b ≠ -6) : AI (aRch0 S b l) lo x := by
  obtain ⟨l0, lL, l4⟩ := AI_up h hu
  obtain ⟨ha, hl, hb, hn, hh, -⟩ := id h
  refine AI_b h (fun r a1 a2 a3 a4 => aRch0_o S b l a1 a2 a4) ?_ ?_ ?_
  · rw [aRch0_19, aRch0_20, aRch0_o S b l (by decide) (by decide) (by decide)]
    intro c
    by_cases e : c = b
    · subst e
      simp only [up1_s]
      exact ⟨Or.inr ⟨l0, lL, Or.inl hu⟩, Or.inl trivial, (hb c).2.2.1, fun _ => by omega, fun q => by omega⟩
    · simp only [up1_n _ _ e]
      exact hb c
  · rw [aRch0_19]
    intro hy hx c c0 c8
    rw [up1_e]
    split
    · omega
    · exact hn hy hx c c0 c8
  · rw [aRch0_19, aRch0_o S b l (by decide) (by decide) (by decide)]
    intro i i0 i1 i2
    rcases hh i i0 i1 i2 with q | q
    · exact Or.inl q
    · right
      rw [up1_e]
      split
      · rename_i e
        rw [e] at q
        exact absurd q hon
      · exact q
theorem AI_reach {S : Mem} {lo : Int → Int} {x b l : Int} (h : AI S lo x) (b0 : 0 ≤ b) (b8 : b < 8) (hu : S 9 l = 1) (hon : S 19 b ≠ -6) : AI (aReach S b l) lo x := by
  obtain ⟨l0, lL, l4⟩ := AI_up h hu
  refine AI_rel (AI_rch0 h b0 b8 hu hon) (Or.inr ?_) (fun _ => ?_)
  · rw [aRch0_19, up1_s, aRch0_o S b l (by decide) (by decide) (by decide)]
    exact hu
  · rw [aRch0_19, up1_s]
    omega
theorem AI_settle {S : Mem} {lo : Int → Int} {x b : Int} (h : AI S lo x) (b0 : 0 ≤ b) (b8 : b < 8) (hg : goal S b ≠ -6 → S 9 (goal S b) = 1 ∧ S 19 b ≠ -6) : AI (aSettle S b) lo x := by
  unfold aSettle
  split
  · rename_i hc
    obtain ⟨g1, g2⟩ := hg hc.1
    exact AI_reach h b0 b8 g1 g2
  · exact h
theorem goal_up {S : Mem} {lo : Int → Int} {b : Int} (h : AI S lo (-1)) (hg : goal S b ≠ -6) : S 9 (goal S b) = 1 ∧ S 19 b ≠ -6 := by
  obtain ⟨g1, g2, -, -⟩ := h.2.2.1 b
  unfold goal at hg ⊢
  split
  · rename_i e
    rw [if_pos e] at hg
    rcases g1 with q | ⟨q1, q2, q3 | q3⟩
    · exact absurd q hg
    · exact ⟨q3, hg⟩
    · omega
  · rename_i e
    rcases g2 with q | ⟨q1, q2, q3 | q3, q4, q5⟩
    · exact absurd q e
    · exact ⟨q3, q4⟩
    · omega
theorem AI_sets {S : Mem} {lo : Int → Int} (h : AI S lo (-1)) : ∀ k : Nat, k ≤ 8 → AI (aSets S k) lo (-1)
  | 0, _ => h
  | k + 1, hk => by
    have ih := AI_sets h k (by omega)
    unfold aSets
    dsimp only
    split
    · exact AI_settle ih (by omega) (by omega) (goal_up ih)
    · exact ih
theorem AI_time {S : Mem} {lo : Int → Int} {x v : Int} (h : AI S lo x) (h1 : S 5 0 ≤ v) (h2 : v ≤ 1000000) : AI (mw S 5 0 v) lo x := by
  have eq : ∀ l' p, 0 ≤ l' → l' < 4 → qr (mw S 5 0 v) l' p = qr S l' p := fun l' p a b => mwq (by omega) _ _ a b
  obtain ⟨ha, hl, hb, hn, hh, hf, ht, ks, kh, kf, kl, hq, hi, ho⟩ := h
  have hr : ∀ r, r ≠ 5 → mw S 5 0 v r = S r := fun r hr => mw_rn _ _ _ hr
  have e50 : mw S 5 0 v 5 0 = v := by rw [mw_rs, up1_s]
  have e51 : mw S 5 0 v 5 1 = S 5 1 := by rw [mw_rs, up1_n _ _ (by decide)]
  unfold AI Ja
  simp only [hr, e50, e51, ne_eq, not_false_eq_true, Nat.reduceEqDiff, Nat.reduceLT, Nat.reduceLeDiff, true_or, or_true, forall_const]
  refine ⟨⟨ha.1, ha.2.1, ha.2.2.1, ⟨by have := ha.2.2.2.1; omega, h2⟩, ha.2.2.2.2⟩, hl, hb, hn, hh, hf, ht, ks, kh, kf, kl, Jq_rw ?_ eq, Ji_rw hi ha.1.2 eq, ho⟩
  intro l l0 l4
  obtain ⟨q1, q4, q5, q6, q7⟩ := hq l l0 l4
  refine ⟨q1, fun p p0 p1 => ?_, q5, q6, q7⟩
  obtain ⟨g1, g2, g3, g4⟩ := q4 p p0 p1
  exact ⟨g1, g2, fun a b => ⟨(g3 a b).1, (g3 a b).2.1, by have := (g3 a b).2.2; omega⟩, g4⟩
/-- rows that a bucket's settling leaves -/
theorem aRel_o (S : Mem) (b : Int) {r : Nat} (q0 : r ≠ 21) (q1 : r ≠ 22) (q2 : r ≠ 17) (q3 : r ≠ 34) (q4 : r ≠ 35) (q5 : r ≠ 41) (q6 : r < 11 ∨ 15 ≤ r) (hl : S 19 b < 4) : aRel S b r = S r := by
  unfold aRel
  split
  · rw [mw_rn _ _ _ q0]
  · rw [aLets_o _ _ _ q1 q2 q3 q4 q5 q6 hl, mw_rn _ _ _ q0]
theorem aReach_o (S : Mem) (b l : Int) {r : Nat} (p1 : r ≠ 19) (p2 : r ≠ 20) (p3 : r ≠ 23) (q0 : r ≠ 21) (q1 : r ≠ 22) (q2 : r ≠ 17) (q3 : r ≠ 34) (q4 : r ≠ 35) (q5 : r ≠ 41) (q6 : r < 11 ∨ 15 ≤ r) (hl : l < 4) : aReach S b l r = S r := by
  unfold aReach
  rw [aRel_o _ _ q0 q1 q2 q3 q4 q5 q6 (by rw [aRch0_19, up1_s]; exact hl), aRch0_o _ _ _ p1 p2 p3]
theorem goal_lt {S : Mem} {lo : Int → Int} {x b : Int} (h : AI S lo x) : goal S b < 4 := by
  obtain ⟨g1, g2, -, -⟩ := h.2.2.1 b
  have := h.1.1
  unfold goal
  split <;> omega
theorem aSettle_o {S : Mem} {lo : Int → Int} {x : Int} (h : AI S lo x) (b : Int) {r : Nat} (p1 : r ≠ 19) (p2 : r ≠ 20) (p3 : r ≠ 23) (q0 : r ≠ 21) (q1 : r ≠ 22) (q2 : r ≠ 17) (q3 : r ≠ 34) (q4 : r ≠ 35) (q5 : r ≠ 41) (q6 : r < 11 ∨ 15 ≤ r) : aSettle S b r = S r := by
  unfold aSettle
  split
  · exact aReach_o _ _ _ p1 p2 p3 q0 q1 q2 q3 q4 q5 q6 (goal_lt h)
  · rfl
theorem aSets_o {S : Mem} {lo : Int → Int} (h : AI S lo (-1)) {r : Nat} (p1 : r ≠ 19) (p2 : r ≠ 20) (p3 : r ≠ 23) (q0 : r ≠ 21) (q1 : r ≠ 22) (q2 : r ≠ 17) (q3 : r ≠ 34) (q4 : r ≠ 35) (q5 : r ≠ 41) (q6 : r < 11 ∨ 15 ≤ r) : ∀ k : Nat, k ≤ 8 → aSets S k r = S r
  | 0, _ => rfl
  | k + 1, hk => by
    unfold aSets
    dsimp only
    split
    · rw [aSettle_o (AI_sets h k (by omega)) _ p1 p2 p3 q0 q1 q2 q3 q4 q5 q6, aSets_o h p1 p2 p3 q0 q1 q2 q3 q4 q5 q6 k (by omega)]
    · exact aSets_o h p1 p2 p3 q0 q1 q2 q3 q4 q5 q6 k (by omega)
/-- the stages of a tick -/
def tk1 (S : Mem) : Mem := mw S 5 0 (S 5 0 + 1)
def tk2 (S : Mem) : Mem := aLvs (tk1 S) (S 1 0).toNat
def tk3 (S : Mem) : Mem := aArs (tk2 S) (S 1 0).toNat
def tk4 (S : Mem) : Mem := aOuts (tk3 S)
theorem aTick_eq (S : Mem) : aTick S = aSets (tk4 S) 8 := rfl
theorem AI_tk1 {S : Mem} (h : NI S) (ht : S 5 0 < 1000000) : AI (tk1 S) (fun _ => S 5 0) (-1) := AI_time h (by omega) (by omega)
theorem tk1_t (S : Mem) : tk1 S 5 0 = S 5 0 + 1 := by unfold tk1; rw [mw_rs, up1_s]
theorem AI_tk2 {S : Mem} (h : NI S) (ht : S 5 0 < 1000000) : AI (tk2 S) (fun _ => S 5 0) (-1) := AI_lvs (AI_tk1 h ht) (fun l => by rw [tk1_t]; omega) _
theorem tk2_5 (S : Mem) : tk2 S 5 = tk1 S 5 := aLvs_o _ (by decide) (by decide) (by decide) (by decide) (by decide) (by decide) _
theorem tk2_1 (S : Mem) : tk2 S 1 = S 1 := by
  unfold tk2
  rw [aLvs_o _ (by decide) (by decide) (by decide) (by decide) (by decide) (by decide)]
  exact mw_rn _ _ _ (by decide)
theorem AI_tk3 {S : Mem} (h : NI S) (ht : S 5 0 < 1000000) : AI (tk3 S) (fun _ => S 5 0 + 1) (-1) := by
  have h1 := AI_tk2 h ht
  have e : tk2 S 5 0 = S 5 0 + 1 := by rw [tk2_5]; exact tk1_t S
  have h2 : AI (tk2 S) (fun _ => tk2 S 5 0 - 1) (-1) := by rw [e, show S 5 0 + 1 - 1 = S 5 0 by omega]; exact h1
  have h3 := AI_ars2 h2
  rw [e, tk2_1] at h3
  exact h3
theorem tk3_5 (S : Mem) : tk3 S 5 = tk1 S 5 := by
  unfold tk3
  rw [aArs_o _ (by decide) (by decide) (by decide) (by decide) (by decide) (by decide) (by decide) (by decide), tk2_5]
theorem AI_tk4 {S : Mem} (h : NI S) (ht : S 5 0 < 1000000) : AI (tk4 S) (fun _ => S 5 0 + 1) (-1) := AI_outs (AI_tk3 h ht)
theorem tk4_5 (S : Mem) : tk4 S 5 = tk1 S 5 := by
  unfold tk4
  rw [aOuts_o _ (by decide) (by decide) (by decide) (by decide) (by decide) (by decide) (by decide) (by decide), tk3_5]
theorem aTick_5 {S : Mem} (h : NI S) (ht : S 5 0 < 1000000) : aTick S 5 = tk1 S 5 := by
  rw [aTick_eq, aSets_o (AI_tk4 h ht) (by decide) (by decide) (by decide) (by decide) (by decide) (by decide) (by decide) (by decide) (by decide) (by omega) 8 (by omega), tk4_5]
theorem NI_tick {S : Mem} (h : NI S) (ht : S 5 0 < 1000000) : NI (aTick S) := by
  unfold NI
  rw [aTick_5 h ht, tk1_t]
  exact AI_sets (AI_tk4 h ht) 8 (by omega)
def aTicks (S : Mem) : Nat → Mem
  | 0 => S
  | k + 1 => aTick (aTicks S k)
theorem NI_ticks {S : Mem} (h : NI S) : ∀ k : Nat, S 5 0 + k ≤ 1000000 → NI (aTicks S k) ∧ aTicks S k 5 0 = S 5 0 + k
  | 0, _ => ⟨h, by simp [aTicks]⟩
  | k + 1, hk => by
    obtain ⟨h1, h2⟩ := NI_ticks h k (by omega)
    refine ⟨NI_tick h1 (by omega), ?_⟩
    rw [aTicks, aTick_5 h1 (by omega), tk1_t, h2]
    push_cast
    omega
/-! nothing is busy: a tick changes the time alone -/
def idle (S : Mem) : Prop := S 41 1 + S 41 2 + S 41 3 ≤ 0 ∧ ∀ b, 0 ≤ b → b < 8 → S 20 b = -6 ∧ S 21 b = 0
theorem idle_tick {S : Mem} (h : NI S) (hi : idle S) : aTick S = tk1 S := by
  obtain ⟨ha, hl, hb, hn, hh, hf, ht, ks, kh, kf, kl, hq, hi2, ho⟩ := id h
  have k1 := ks 1 (by decide) (by decide)
  have k2 := ks 2 (by decide) (by decide)
  have k3 := ks 3 (by decide) (by decide)
  have n1 := ct_nn (fun j => decide (S 34 j = 1)) (S 4 0).toNat
  have n2 := ct_nn (fun j => decide (S 34 j = 2)) (S 4 0).toNat
  have n3 := ct_nn (fun j => decide (S 34 j = 3)) (S 4 0).toNat
  have hc := hi.1
  have z1 : ∀ l, 0 ≤ l → l < 4 → S 17 l - S 16 l = 0 ∧ S 16 l - S 15 l = 0 := fun l l0 l4 => by
    have q := kl l l0 l4
    rw [q.2.1, q.2.2]
    constructor
    · refine ct_none (fun i i0 i1 => ?_)
      have := ct_zero (p := fun j => decide (S 34 j = 1)) (n := (S 4 0).toNat) (by omega) i i0 i1
      simp at this
      simp [this]
    · refine ct_none (fun i i0 i1 => ?_)
      have := ct_zero (p := fun j => decide (S 34 j = 2)) (n := (S 4 0).toNat) (by omega) i i0 i1
      simp at this
      simp [this]
  have er : ∀ r, r ≠ 5 → tk1 S r = S r := fun r hr => mw_rn _ _ _ hr
  have e2 : ∀ k : Nat, k ≤ 4 → aLvs (tk1 S) k = tk1 S := by
    intro k
    induction k with
    | zero => intro _; rfl
    | succ k ih =>
      intro hk
      rw [aLvs, ih (by omega), aLv]
      split
      · rfl
      · have hz := (z1 k (by omega) (by omega)).1
        have hsp := hl.2.2 k
        have : lvN (tk1 S) k = 0 := by
          unfold lvN
          rw [er 17 (by decide), er 16 (by decide), er 7 (by decide)]
          split <;> omega
        rw [this]
        rfl
  have e3 : ∀ k : Nat, k ≤ 4 → aArs (tk1 S) k = tk1 S := by
    intro k
    induction k with
    | zero => intro _; rfl
    | succ k ih =>
      intro hk
      rw [aArs, ih (by omega), aAr, er 16 (by decide), er 15 (by decide), (z1 k (by omega) (by omega)).2]
      rfl
  have e4 : aOuts (tk1 S) = tk1 S := by
    unfold aOuts
    rw [if_neg]
    rw [er 41 (by decide)]
    omega
  have e5 : ∀ k : Nat, k ≤ 8 → aSets (tk1 S) k = tk1 S := by
    intro k
    induction k with
    | zero => intro _; rfl
    | succ k ih =>
      intro hk
      have := hi.2 k (by omega) (by omega)
      unfold aSets
      dsimp only
      rw [ih (by omega), if_neg]
      rw [er 20 (by decide), er 21 (by decide)]
      omega
  have hL := ha.1
  rw [aTick_eq]
  unfold tk4 tk3 tk2
  rw [e2 _ (by omega), e3 _ (by omega), e4, e5 8 (by omega)]
