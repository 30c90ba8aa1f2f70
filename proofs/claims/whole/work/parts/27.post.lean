/-! A letter is sent. -/
def aNew (S : Mem) (f b : Int) : Mem := mw (mw (aAdd S f (S 26 f) b (S 5 0)) 26 f (S 26 f + 1)) 22 b (S 22 b + 1)
theorem ct_new {p q : Int → Bool} {n : Int} (h0 : 0 ≤ n) (h : ∀ j, 0 ≤ j → j < n → q j = p j) : ct q (n + 1).toNat = ct p n.toNat + bi (q n) := by
  have e : (n + 1).toNat = n.toNat + 1 := by omega
  have e2 : ((n.toNat : Nat) : Int) = n := by omega
  rw [e, ct_s', ct_cong (q := p) (fun j a b => h j a (by omega)), e2]
theorem aNew_o (S : Mem) (f b : Int) {r : Nat} (h : r < 22 ∨ r = 23 ∨ r = 24 ∨ r = 25 ∨ (26 < r ∧ r < 31) ∨ r = 40 ∨ 41 < r) (h4 : r ≠ 4) : aNew S f b r = S r := by
  unfold aNew aAdd
  rw [mw_rn _ _ _ (by omega), mw_rn _ _ _ (by omega), mw_rn _ _ _ h4, mw_rn _ _ _ (by omega), mw_rn _ _ _ (by omega), mw_rn _ _ _ (by omega), mw_rn _ _ _ (by omega), mw_rn _ _ _ (by omega), mw_rn _ _ _ (by omega), mw_rn _ _ _ (by omega), mw_rn _ _ _ (by omega), mw_rn _ _ _ (by omega), mw_rn _ _ _ (by omega)]
theorem aNew_rows (S : Mem) (f b : Int) : aNew S f b 31 = up1 (S 31) (S 4 0) f ∧ aNew S f b 32 = up1 (S 32) (S 4 0) (S 26 f) ∧ aNew S f b 33 = up1 (S 33) (S 4 0) b ∧ aNew S f b 34 = up1 (S 34) (S 4 0) 0 ∧ aNew S f b 35 = up1 (S 35) (S 4 0) (-6) ∧ aNew S f b 38 = up1 (S 38) (S 4 0) (-6) ∧
    aNew S f b 41 = up1 (S 41) 0 (S 41 0 + 1) ∧ aNew S f b 4 = up1 (S 4) 0 (S 4 0 + 1) ∧ aNew S f b 26 = up1 (S 26) f (S 26 f + 1) ∧ aNew S f b 22 = up1 (S 22) b (S 22 b + 1) := by
  unfold aNew aAdd
  simp only [mw_rs, mw_rn, ne_eq, not_false_eq_true, Nat.reduceEqDiff, Nat.reduceLT, Nat.reduceLeDiff, true_or, or_true, forall_const, and_self]
theorem AI_new {S : Mem} {lo : Int → Int} {x f b : Int} (h : AI S lo x) (f0 : 0 ≤ f) (f1 : f < S 3 0) (hn4 : S 4 0 < 400) (b0 : 0 ≤ b) (b8 : b < 8) (hhb : S 21 b = 1 ∨ S 19 b = -6) : AI (aNew S f b) lo x := by
  have eo : ∀ r : Nat, (r < 22 ∨ r = 23 ∨ r = 24 ∨ r = 25 ∨ (26 < r ∧ r < 31) ∨ r = 40 ∨ 41 < r) → r ≠ 4 → aNew S f b r = S r := fun r a c => aNew_o S f b a c
  obtain ⟨e31, e32, e33, e34, e35, e38, e41, e4, e26, e22⟩ := aNew_rows S f b
  have eq : ∀ l' p, 0 ≤ l' → l' < 4 → qr (aNew S f b) l' p = qr S l' p := fun l' p a c => by
    show aNew S f b (11 + l'.toNat) p = _
    rw [eo _ (by omega) (by omega)]
  obtain ⟨ha, hl, hb, hn, hh, hf, ht, ks, kh, kf, kl, hq, hi, ho⟩ := h
  have hn0 := ha.2.2.1
  have hF := ha.2.1
  have hsent := (kf f f0 (by omega)).1
  have hsn := ct_nn (fun j => decide (S 31 j = f)) (S 4 0).toNat
  have ne : ∀ j : Int, j < S 4 0 → j ≠ S 4 0 := fun j q => by omega
  unfold AI Ja
  simp only [eo, e31, e32, e33, e34, e35, e38, e41, e4, e26, e22, up1_s, ne_eq, not_false_eq_true, Nat.reduceEqDiff, Nat.reduceLT, Nat.reduceLeDiff, true_or, or_true, forall_const, Nat.reduceEqDiff, or_false, false_or, and_self, or_self, and_false, false_and]
  refine ⟨⟨ha.1, ha.2.1, ⟨by omega, by omega⟩, ha.2.2.2⟩, hl, hb, hn, ?_, hf, ?_, ?_, ?_, ?_, ?_, Jq_rw ?_ eq, Ji_rw ?_ ha.1.2 eq, ?_⟩
  · intro i i0 i1 i2
    by_cases e : i = S 4 0
    · subst e
      rw [up1_s]
      exact hhb
    · rw [up1_n _ _ e] at i2 ⊢
      exact hh i i0 (by omega) i2
  · intro i
    obtain ⟨q1, q2, q3, q4, q5⟩ := ht i
    by_cases e : i = S 4 0
    · subst e
      simp only [up1_s]
      omega
    · simp only [up1_n _ _ e]
      exact ⟨⟨q1.1, q1.2.1, fun a c => q1.2.2 a (by omega)⟩, q2, q3, q4, q5⟩
  · intro s s0 s6
    rw [ct_new (p := fun j => decide (S 34 j = s)) hn0.1 (fun j j0 j1 => by rw [up1_n _ _ (ne j j1)]), up1_s, up1_e]
    split
    · rename_i e
      subst e
      rw [ks 0 s0 s6]
      rfl
    · rename_i e
      rw [ks s s0 s6]
      simp [bi, Ne.symm e]
  · intro c c0 c8
    rw [ct_new (p := fun j => decide (S 34 j = 0 ∧ S 33 j = c)) hn0.1 (fun j j0 j1 => by rw [up1_n _ _ (ne j j1), up1_n _ _ (ne j j1)]), up1_s, up1_s, up1_e]
    split
    · rename_i e
      subst e
      rw [kh c c0 c8]
      simp [bi]
    · rename_i e
      rw [kh c c0 c8]
      simp [bi, Ne.symm e]
  · intro g g0 g6
    obtain ⟨k1, k2, k3⟩ := kf g g0 g6
    rw [ct_new (p := fun j => decide (S 31 j = g)) hn0.1 (fun j j0 j1 => by rw [up1_n _ _ (ne j j1)]), ct_new (p := fun j => decide (S 34 j = 4 ∧ S 31 j = g)) hn0.1 (fun j j0 j1 => by rw [up1_n _ _ (ne j j1), up1_n _ _ (ne j j1)]), ct_new (p := fun j => decide (S 34 j = 5 ∧ S 31 j = g)) hn0.1 (fun j j0 j1 => by rw [up1_n _ _ (ne j j1), up1_n _ _ (ne j j1)]), up1_s, up1_s, up1_e, ← k1, ← k2, ← k3]
    by_cases e : g = f
    · subst e
      simp [bi]
    · simp [bi, e, Ne.symm e]
  · intro l l0 l4
    obtain ⟨k1, k2, k3⟩ := kl l l0 l4
    rw [ct_new (p := fun j => decide (S 35 j = l)) hn0.1 (fun j j0 j1 => by rw [up1_n _ _ (ne j j1)]), ct_new (p := fun j => decide (S 34 j = 1 ∧ S 35 j = l)) hn0.1 (fun j j0 j1 => by rw [up1_n _ _ (ne j j1), up1_n _ _ (ne j j1)]), ct_new (p := fun j => decide (S 34 j = 2 ∧ S 35 j = l)) hn0.1 (fun j j0 j1 => by rw [up1_n _ _ (ne j j1), up1_n _ _ (ne j j1)]), up1_s, up1_s, ← k1, ← k2, ← k3]
    simp [bi, show ¬ (-6 : Int) = l by omega]
  · intro l l0 l4
    obtain ⟨q1, q4, q5, q6, q7⟩ := hq l l0 l4
    refine ⟨q1, fun p p0 p1 => ?_, q5, fun p p' p0 p1 p2 => ?_, q7⟩
    · have h4 := q4 p p0 p1
      have hk := ne _ h4.1.2.1
      simp only [up1_n _ _ hk]
      exact ⟨⟨h4.1.1, by have := h4.1.2.1; omega, h4.1.2.2⟩, h4.2⟩
    · have h4 := (q4 p (by omega) (by omega)).1.2.1
      have h5 := (q4 p' (by omega) (by omega)).1.2.1
      rw [up1_n _ _ (ne _ h4), up1_n _ _ (ne _ h5)]
      exact q6 p p' p0 p1 p2
  · intro i i0 i1
    by_cases e : i = S 4 0
    · subst e
      left
      simp only [up1_s, and_self]
    · simp only [up1_n _ _ e]
      exact hi i i0 (by omega)
  · obtain ⟨o1, o2, o3⟩ := ho
    have e4i : up1 (S 41) 0 (S 41 0 + 1) 4 = S 41 4 := up1_n _ _ (by decide)
    unfold Jo
    rw [e4i]
    have cg : ∀ j : Int, 0 ≤ j → j < (S 41 4).toNat → up1 (S 31) (S 4 0) f (S 40 j) = S 31 (S 40 j) ∧ up1 (S 32) (S 4 0) (S 26 f) (S 40 j) = S 32 (S 40 j) := fun j j0 j1 => by
      have := (o1 j j0 (by omega)).2
      rw [up1_n _ _ (ne _ this), up1_n _ _ (ne _ this)]
      exact ⟨rfl, rfl⟩
    refine ⟨fun k k0 k1 => ⟨(o1 k k0 k1).1, by have := (o1 k k0 k1).2; omega⟩, fun g g0 g1 => ?_, o3⟩
    rw [lastP_cong cg, mixP_cong cg]
    exact o2 g g0 g1
def aPost0 (S : Mem) (f : Int) : Mem := mw (aAdd S f (S 26 f) (bkO S f) (S 5 0)) 26 f (S 26 f + 1)
def aPost (S : Mem) (f : Int) : Mem := if S 21 (bkO S f) ≠ 0 ∨ S 19 (bkO S f) = -6 ∨ 0 < S 22 (bkO S f) then aNew S f (bkO S f) else aEnq (aPost0 S f) (S 4 0) (S 19 (bkO S f))
theorem bkO_in {S : Mem} {lo : Int → Int} {x f : Int} (h : AI S lo x) (f0 : 0 ≤ f) (f1 : f < 16) : 0 ≤ bkO S f ∧ bkO S f < 8 := by
  have hf := h.2.2.2.2.2.1 f
  have ha := h.1.2.2.2.2.2
  have hb := fa_bd f0 f1 ha.1.1 ha.1.2
  unfold bkO
  split <;> omega
theorem Ex.new {X : List Nat} {M S : Mem} (h : Ex X M S) (hX : ∀ r ∈ X, r = 21) {f b : Int} : Ex X (aNew M f b) (aNew S f b) := by
  have k : ∀ r, r ≠ 21 → r ∉ X := fun r a hq => by have := hX r hq; omega
  unfold aNew aAdd
  rw [h 26 (k _ (by decide)), h 22 (k _ (by decide)), h 5 (k _ (by decide)), h 4 (k _ (by decide))]
  have e := Ex.w (Ex.w (Ex.w (Ex.w (Ex.w (Ex.w (Ex.w (Ex.w (Ex.w h (r := 31) (i := S 4 0) (v := f) rfl rfl) (r := 32) (i := S 4 0) (v := S 26 f) rfl rfl) (r := 33) (i := S 4 0) (v := b) rfl rfl) (r := 34) (i := S 4 0) (v := 0) rfl rfl) (r := 35) (i := S 4 0) (v := -6) rfl rfl) (r := 36) (i := S 4 0) (v := S 5 0) rfl rfl) (r := 37) (i := S 4 0) (v := -6) rfl rfl) (r := 38) (i := S 4 0) (v := -6) rfl rfl) (r := 39) (i := S 4 0) (v := -6) rfl rfl
  exact Ex.w (Ex.w (Ex.w (Ex.w e rfl (by rw [e 41 (k _ (by decide))])) rfl rfl) rfl rfl) rfl rfl
/-- the counted letter that is queued at once -/
theorem aPost_q {S : Mem} {f b l : Int} (hl : l < 4) : aEnqH (aNew S f b) (S 4 0) l = aEnq (mw (aAdd S f (S 26 f) b (S 5 0)) 26 f (S 26 f + 1)) (S 4 0) l := by
  have h33 : aNew S f b 33 (S 4 0) = b := by rw [(aNew_rows S f b).2.2.1, up1_s]
  have h22 : aNew S f b 22 b = S 22 b + 1 := by rw [(aNew_rows S f b).2.2.2.2.2.2.2.2.2, up1_s]
  unfold aEnqH
  rw [h33, h22]
  unfold aNew
  generalize hT : mw (aAdd S f (S 26 f) b (S 5 0)) 26 f (S 26 f + 1) = T
  have t22 : T 22 = S 22 := by
    rw [← hT]
    unfold aAdd
    simp only [mw_rs, mw_rn, ne_eq, not_false_eq_true, Nat.reduceEqDiff, Nat.reduceLT, Nat.reduceLeDiff, true_or, or_true, forall_const]
  have e : aEnq (mw T 22 b (S 22 b + 1)) (S 4 0) l = mw (aEnq T (S 4 0) l) 22 b (S 22 b + 1) := by
    unfold aEnq
    rw [mw_rn T _ _ (show (17 : Nat) ≠ 22 by decide), mw_comm T _ _ _ _ (show (22 : Nat) ≠ 11 + l.toNat by omega), mw_comm _ _ _ _ _ (show (22 : Nat) ≠ 17 by decide), mw_comm _ _ _ _ _ (show (22 : Nat) ≠ 35 by decide), mw_turn _ _ _ _ _ (by decide) (by decide)]
  rw [e, mw_mw]
  have e2 : S 22 b + 1 - 1 = aEnq T (S 4 0) l 22 b := by
    rw [aEnq_o _ _ _ (by decide) (by decide) (by decide) (by decide) (by omega), t22]
    omega
  rw [e2, mw_id]
theorem AI_post {S : Mem} {lo : Int → Int} {f : Int} (h : AI S lo (-1)) (f0 : 0 ≤ f) (f1 : f < S 3 0) (hn4 : S 4 0 < 400) : AI (aPost S f) lo (-1) := by
  have hF := h.1.2.1
  obtain ⟨b0, b8⟩ := bkO_in h f0 (by omega)
  generalize hb : bkO S f = b at b0 b8
  unfold aPost
  rw [hb]
  have hJb := h.2.2.1 b
  have hkh := h.2.2.2.2.2.2.2.2.1 b b0 b8
  have hnn := ct_nn (fun j => decide (S 34 j = 0 ∧ S 33 j = b)) (S 4 0).toNat
  split
  · rename_i hc
    refine AI_new h f0 f1 hn4 b0 b8 ?_
    rcases hc with q | q | q
    · rcases hJb.2.2.1 with q2 | q2
      · exact absurd q2 q
      · exact Or.inl q2
    · exact Or.inr q
    · by_cases e : S 21 b = 1
      · exact Or.inl e
      · by_cases e2 : S 19 b = -6
        · exact Or.inr e2
        · rw [hkh, ct_none (fun i i0 i1 => ?_)] at q
          · omega
          · simp only [decide_eq_false_iff_not]
            rintro ⟨w1, w2⟩
            have := h.2.2.2.2.1 i i0 (by omega) w1
            rw [w2] at this
            rcases this with w | w
            · exact e w
            · exact e2 w
  · rename_i hc
    have hz : S 21 b = 0 := by
      by_cases q : S 21 b = 0
      · exact q
      · exact absurd (Or.inl q) hc
    have hon : S 19 b ≠ -6 := fun q => hc (Or.inr (Or.inl q))
    have hh0 : S 22 b = 0 := by
      have : ¬ 0 < S 22 b := fun q => hc (Or.inr (Or.inr q))
      omega
    have hu : S 9 (S 19 b) = 1 := by rcases hJb.1 with q | ⟨q1, q2, q3 | q3⟩ <;> first | exact q3 | omega
    obtain ⟨l0, lL, l4⟩ := AI_up h hu
    have hfree : ∀ i, 0 ≤ i → i < S 4 0 → S 34 i = 0 → S 33 i ≠ b := fun i i0 i1 i2 i3 => by
      have := ct_zero (hkh.symm.trans hh0) i i0 (by omega)
      simp [i2, i3] at this
    have h1 : AI (mw S 21 b 1) lo (-1) := by
      refine AI_b h (fun r a1 a2 a3 a4 => mw_rn _ _ _ a3) ?_ ?_ ?_
      · simp only [mw_rs, mw_rn, ne_eq, not_false_eq_true, Nat.reduceEqDiff, Nat.reduceLT, Nat.reduceLeDiff, true_or, or_true, forall_const]
        intro c
        obtain ⟨g1, g2, g3, g4, g5⟩ := h.2.2.1 c
        by_cases e : c = b
        · subst e
          simp only [up1_s]
          exact ⟨g1, g2, Or.inr trivial, fun _ => hon, g5⟩
        · simp only [up1_n _ _ e]
          exact ⟨g1, g2, g3, g4, g5⟩
      · simp only [mw_rn, ne_eq, not_false_eq_true, Nat.reduceEqDiff, Nat.reduceLT, Nat.reduceLeDiff, true_or, or_true, forall_const]
        exact h.2.2.2.1
      · simp only [mw_rs, mw_rn, ne_eq, not_false_eq_true, Nat.reduceEqDiff, Nat.reduceLT, Nat.reduceLeDiff, true_or, or_true, forall_const]
        intro i i0 i1 i2
        rcases h.2.2.2.2.1 i i0 i1 i2 with q | q
        · left
          rw [up1_e]
          split
          · rfl
          · exact q
        · exact Or.inr q
    have h2 : AI (aNew (mw S 21 b 1) f b) lo (-1) := AI_new h1 f0 f1 hn4 b0 b8 (Or.inl (by rw [mw_rs, up1_s]))
    have e21 : aNew (mw S 21 b 1) f b = mw (aNew S f b) 21 b 1 := by
      refine mem_ext (fun r => ?_)
      by_cases e : r = 21
      · subst e
        rw [aNew_o _ _ _ (by omega) (by decide), mw_rs, mw_rs, aNew_o _ _ _ (by omega) (by decide)]
      · rw [mw_rn _ _ _ e]
        have hx : Ex [21] (mw S 21 b 1) S := Ex.skip1 Ex.rf (by decide)
        exact Ex.new hx (by simp) r (by simp [e])
    rw [e21] at h2
    have hrow := aNew_rows S f b
    have h3 : AI (aEnqH (mw (aNew S f b) 21 b 1) (S 4 0) (S 19 b)) lo (-1) := by
      refine AI_enqH h2 h.1.2.2.1.1 ?_ ?_ ?_
      · rw [mw_rn _ _ _ (by decide), hrow.2.2.2.2.2.2.2.1, up1_s]; omega
      · rw [mw_rn _ _ _ (by decide), hrow.2.2.2.1, up1_s]
      · rw [mw_rn _ _ _ (by decide), aNew_o _ _ _ (by omega) (by decide)]; exact hu
    rw [mw_enqH _ _ _ _ _ (by decide) (by decide) (by decide) (by decide) (by decide) (by omega) (by decide) l4] at h3
    unfold aPost0
    rw [hb, ← aPost_q (b := b) l4]
    have eT : aEnqH (aNew S f b) (S 4 0) (S 19 b) 21 = S 21 := by rw [aEnqH_o _ _ _ (by decide) (by decide) (by decide) (by decide) (by decide) (by omega) l4, aNew_o _ _ _ (by omega) (by decide)]
    have e9 : aEnqH (aNew S f b) (S 4 0) (S 19 b) 19 = S 19 := by rw [aEnqH_o _ _ _ (by decide) (by decide) (by decide) (by decide) (by decide) (by omega) l4, aNew_o _ _ _ (by omega) (by decide)]
    have e33 : aEnqH (aNew S f b) (S 4 0) (S 19 b) 33 = up1 (S 33) (S 4 0) b := by rw [aEnqH_o _ _ _ (by decide) (by decide) (by decide) (by decide) (by decide) (by omega) l4, hrow.2.2.1]
    have e34 : aEnqH (aNew S f b) (S 4 0) (S 19 b) 34 = up1 (S 34) (S 4 0) 1 := by rw [aEnqH_34 _ _ l4, hrow.2.2.2.1, up1_up1]
    have e4 : aEnqH (aNew S f b) (S 4 0) (S 19 b) 4 = up1 (S 4) 0 (S 4 0 + 1) := by rw [aEnqH_o _ _ _ (by decide) (by decide) (by decide) (by decide) (by decide) (by omega) l4, hrow.2.2.2.2.2.2.2.1]
    generalize hT : aEnqH (aNew S f b) (S 4 0) (S 19 b) = T at h3 eT e9 e33 e34 e4
    have back : mw (mw T 21 b 1) 21 b 0 = T := by
      rw [mw_mw, show (0 : Int) = T 21 b by rw [eT]; exact hz.symm, mw_id]
    rw [← back]
    refine AI_b h3 (fun r a1 a2 a3 a4 => mw_rn _ _ _ a3) ?_ ?_ ?_
    · have hJ := h3.2.2.1
      simp only [mw_rs, mw_rn, ne_eq, not_false_eq_true, Nat.reduceEqDiff, Nat.reduceLT, Nat.reduceLeDiff, true_or, or_true, forall_const] at hJ ⊢
      intro c
      obtain ⟨g1, g2, g3, g4, g5⟩ := hJ c
      refine ⟨g1, g2, ?_, ?_, g5⟩
      · rw [up1_up1, up1_e]
        rw [up1_e] at g3
        split
        · exact Or.inl rfl
        · rename_i q; rw [if_neg q] at g3; exact g3
      · rw [up1_up1, up1_e]
        rw [up1_e] at g4
        split
        · exact fun q => by omega
        · rename_i q; rw [if_neg q] at g4; exact g4
    · have hJ := h3.2.2.2.1
      simp only [mw_rn, ne_eq, not_false_eq_true, Nat.reduceEqDiff, Nat.reduceLT, Nat.reduceLeDiff, true_or, or_true, forall_const] at hJ ⊢
      exact hJ
    · have hJ := h3.2.2.2.2.1
      simp only [mw_rs, mw_rn, ne_eq, not_false_eq_true, Nat.reduceEqDiff, Nat.reduceLT, Nat.reduceLeDiff, true_or, or_true, forall_const] at hJ ⊢
      intro i i0 i1 i2
      have hi33 : T 33 i ≠ b := fun q => by
        rw [e33, e34] at *
        by_cases e : i = S 4 0
        · subst e
          rw [up1_s] at i2
          omega
        · rw [up1_n _ _ e] at i2 q
          rw [e4, up1_s] at i1
          exact hfree i i0 (by omega) i2 q
      rcases hJ i i0 i1 i2 with q | q
      · left
        rw [up1_up1, up1_n _ _ hi33]
        rw [up1_n _ _ hi33] at q
        exact q
      · exact Or.inr q
