/-! The queues through the small steps. -/
def rw1 (rw : Int → Int → Int) (l p i : Int) : Int → Int → Int := fun a b => if a = l ∧ b = p then i else rw a b
theorem Jq_enq {n tm i l1 : Int} {lo st lk ar dl up ws qs qe : Int → Int} {rw : Int → Int → Int} (h : Jq n tm lo st lk ar dl up ws qs qe rw) (h0 : 0 ≤ i) (h1 : i < n) (hl : lk i = -6) (hl1 : up l1 ≠ 0) :
    Jq n tm lo (up1 st i 1) (up1 lk i l1) ar dl up ws qs (up1 qe l1 (qe l1 + 1)) (rw1 rw l1 (qe l1) i) := by
  intro l a b
  obtain ⟨⟨q1, q2, q3⟩, q4, q5, q6, q7⟩ := h l a b
  have key : ∀ p, 0 ≤ p → p < qe l → rw l p ≠ i := fun p p0 p1 e => by
    have := (q4 p p0 p1).1.2.2
    rw [e, hl] at this
    omega
  by_cases e : l = l1
  · subst e
    simp only [up1_s]
    refine ⟨⟨q1, q2, by omega⟩, fun p p0 p1 => ?_, fun p p' p0 p1 p2 => ?_, fun p p' p0 p1 p2 => ?_, fun q => absurd q hl1⟩
    · by_cases e2 : p = qe l
      · subst e2
        simp only [rw1, true_and, and_self, if_true, up1_s]
        exact ⟨⟨h0, h1, trivial⟩, fun _ => by omega, fun _ _ => by omega, fun _ => trivial⟩
      · have hk := key p p0 (by omega)
        simp only [rw1, e2, and_false, if_false, up1_n _ _ hk]
        exact q4 p p0 (by omega)
    · by_cases e2 : p' = qe l
      · have e3 : p ≠ qe l := by omega
        simp only [rw1, e2, e3, and_false, if_false, and_self, if_true]
        exact key p p0 (by omega)
      · have e3 : p ≠ qe l := by omega
        simp only [rw1, e2, e3, and_false, if_false]
        exact q5 p p' p0 p1 (by omega)
    · have e2 : p ≠ qe l := by omega
      have e3 : p' ≠ qe l := by omega
      simp only [rw1, e2, e3, and_false, if_false]
      exact q6 p p' p0 p1 p2
  · simp only [up1_n _ _ e, rw1, e, false_and, if_false]
    refine ⟨⟨q1, q2, q3⟩, fun p p0 p1 => ?_, q5, q6, q7⟩
    have hk := key p p0 p1
    simp only [up1_n _ _ hk]
    exact q4 p p0 p1
theorem Ji_enq {n L i l1 : Int} {st lk qe : Int → Int} {rw : Int → Int → Int} (h : Ji n L st lk qe rw) (hl1 : 0 ≤ l1 ∧ l1 < L) (hqe : 0 ≤ qe l1) :
    Ji n L (up1 st i 1) (up1 lk i l1) (up1 qe l1 (qe l1 + 1)) (rw1 rw l1 (qe l1) i) := by
  intro j j0 j1
  by_cases e : j = i
  · subst e
    right
    simp only [up1_s]
    refine ⟨hl1.1, hl1.2, by omega, qe l1, hqe, by omega, by simp [rw1]⟩
  · simp only [up1_n _ _ e]
    rcases h j j0 j1 with q | ⟨q1, q2, q3, p, q4, q5, q6⟩
    · exact Or.inl q
    · right
      refine ⟨q1, q2, q3, p, q4, ?_, ?_⟩
      · simp only [up1]
        split <;> rename_i e2
        · rw [e2] at q5; omega
        · exact q5
      · have : ¬ (lk j = l1 ∧ p = qe l1) := fun ⟨a, b⟩ => by rw [a] at q5; omega
        simp only [rw1, this, if_false]
        exact q6
theorem Jq_leave {n tm l1 : Int} {lo st lk ar dl up ws qs qe : Int → Int} {rw : Int → Int → Int} (h : Jq n tm lo st lk ar dl up ws qs qe rw) (a1 : 0 ≤ l1) (b1 : l1 < 4) (hq : qs l1 < qe l1) (hlo : lo l1 < tm + dl l1) (hup : up l1 ≠ 0) :
    Jq n tm lo (up1 st (rw l1 (qs l1)) 2) lk (up1 ar (rw l1 (qs l1)) (tm + dl l1)) dl up ws (up1 qs l1 (qs l1 + 1)) qe rw := by
  intro l a b
  obtain ⟨⟨q1, q2, q3⟩, q4, q5, q6, q7⟩ := h l a b
  by_cases e : l = l1
  · subst e
    simp only [up1_s]
    have key : ∀ p, 0 ≤ p → p < qe l → p ≠ qs l → rw l p ≠ rw l (qs l) := fun p p0 p1 p2 => by
      by_cases h9 : p < qs l
      · exact q5 p (qs l) p0 h9 hq
      · exact (q5 (qs l) p (by omega) (by omega) p1).symm
    refine ⟨⟨q1, by omega, by omega⟩, fun p p0 p1 => ?_, q5, fun p p' p0 p1 p2 => ?_, fun q => absurd q hup⟩
    · have h4 := q4 p p0 p1
      by_cases e2 : p = qs l
      · subst e2
        simp only [up1_s]
        exact ⟨h4.1, fun _ => by omega, fun _ _ => ⟨trivial, hlo, by omega⟩, fun _ => by omega⟩
      · have hk := key p p0 p1 e2
        simp only [up1_n _ _ hk]
        exact ⟨h4.1, h4.2.1, fun x y => h4.2.2.1 x (by omega), fun x => h4.2.2.2 (by omega)⟩
    · by_cases e2 : p' = qs l
      · subst e2
        simp only [up1_s]
        by_cases e3 : p = qs l
        · subst e3
          simp only [up1_s]
          omega
        · have hk := key p (by omega) (by omega) e3
          simp only [up1_n _ _ hk]
          exact ((q4 p (by omega) (by omega)).2.2.1 p0 (by omega)).2.2
      · have hk := key p (by omega) (by omega) (by omega)
        have hk2 := key p' (by omega) (by omega) e2
        simp only [up1_n _ _ hk, up1_n _ _ hk2]
        exact q6 p p' p0 p1 (by omega)
  · obtain ⟨⟨s1, s2, s3⟩, s4, s5, s6, s7⟩ := h l1 a1 b1
    have hi := (s4 (qs l1) (by omega) hq).1.2.2
    have key : ∀ p, 0 ≤ p → p < qe l → rw l p ≠ rw l1 (qs l1) := fun p p0 p1 e2 => by
      have := (q4 p p0 p1).1.2.2
      rw [e2, hi] at this
      omega
    simp only [up1_n _ _ e]
    refine ⟨⟨q1, q2, q3⟩, fun p p0 p1 => ?_, q5, fun p p' p0 p1 p2 => ?_, q7⟩
    · have hk := key p p0 p1
      simp only [up1_n _ _ hk]
      exact q4 p p0 p1
    · have hk := key p (by omega) (by omega)
      have hk2 := key p' (by omega) (by omega)
      simp only [up1_n _ _ hk, up1_n _ _ hk2]
      exact q6 p p' p0 p1 p2
theorem Jq_arr {n tm l1 s1 : Int} {lo st lk ar dl up ws qs qe : Int → Int} {rw : Int → Int → Int} (h : Jq n tm lo st lk ar dl up ws qs qe rw) (a1 : 0 ≤ l1) (b1 : l1 < 4) (hq : ws l1 < qs l1) (hs1 : 3 ≤ s1) :
    Jq n tm lo (up1 st (rw l1 (ws l1)) s1) lk ar dl up (up1 ws l1 (ws l1 + 1)) qs qe rw := by
  intro l a b
  obtain ⟨⟨q1, q2, q3⟩, q4, q5, q6, q7⟩ := h l a b
  by_cases e : l = l1
  · subst e
    simp only [up1_s]
    have key : ∀ p, 0 ≤ p → p < qe l → p ≠ ws l → rw l p ≠ rw l (ws l) := fun p p0 p1 p2 => by
      by_cases h9 : p < ws l
      · exact q5 p (ws l) p0 h9 (by omega)
      · exact (q5 (ws l) p (by omega) (by omega) p1).symm
    refine ⟨⟨by omega, by omega, by omega⟩, fun p p0 p1 => ?_, q5, fun p p' p0 p1 p2 => q6 p p' (by omega) p1 p2, fun q => by have := q7 q; omega⟩
    have h4 := q4 p p0 p1
    by_cases e2 : p = ws l
    · subst e2
      simp only [up1_s]
      exact ⟨h4.1, fun _ => hs1, fun _ _ => by omega, fun _ => by omega⟩
    · have hk := key p p0 p1 e2
      simp only [up1_n _ _ hk]
      exact ⟨h4.1, fun x => h4.2.1 (by omega), fun x y => h4.2.2.1 (by omega) y, h4.2.2.2⟩
  · obtain ⟨⟨s1, s2, s3⟩, s4, s5, s6, s7⟩ := h l1 a1 b1
    have hi := (s4 (ws l1) (by omega) (by omega)).1.2.2
    have key : ∀ p, 0 ≤ p → p < qe l → rw l p ≠ rw l1 (ws l1) := fun p p0 p1 e2 => by
      have := (q4 p p0 p1).1.2.2
      rw [e2, hi] at this
      omega
    simp only [up1_n _ _ e]
    refine ⟨⟨q1, q2, q3⟩, fun p p0 p1 => ?_, q5, q6, q7⟩
    have hk := key p p0 p1
    simp only [up1_n _ _ hk]
    exact q4 p p0 p1
/-- a letter behind the way changes -/
theorem Jq_out {n tm i s1 : Int} {lo st lk ar dl up ws qs qe : Int → Int} {rw : Int → Int → Int} (h : Jq n tm lo st lk ar dl up ws qs qe rw) (hs : 3 ≤ st i) (hs1 : 3 ≤ s1) :
    Jq n tm lo (up1 st i s1) lk ar dl up ws qs qe rw := by
  intro l a b
  obtain ⟨q123, q4, q5, q6, q7⟩ := h l a b
  refine ⟨q123, fun p p0 p1 => ?_, q5, q6, q7⟩
  obtain ⟨g1, g2, g3, g4⟩ := q4 p p0 p1
  by_cases e : rw l p = i
  · rw [e] at g1 g2 g3 g4 ⊢
    simp only [up1_s]
    exact ⟨g1, fun _ => hs1, fun x y => by have := (g3 x y).1; omega, fun x => by have := g4 x; omega⟩
  · simp only [up1_n _ _ e]
    exact ⟨g1, g2, g3, g4⟩
theorem Ji_turn {n L i s1 : Int} {st lk qe : Int → Int} {rw : Int → Int → Int} (h : Ji n L st lk qe rw) (hs : 1 ≤ st i) (hs1 : 1 ≤ s1) : Ji n L (up1 st i s1) lk qe rw := by
  intro j j0 j1
  by_cases e : j = i
  · subst e
    rcases h j j0 j1 with ⟨-, q⟩ | ⟨q1, q2, q3, q4⟩
    · omega
    · right
      simp only [up1_s]
      exact ⟨q1, q2, hs1, q4⟩
  · simp only [up1_n _ _ e]
    exact h j j0 j1
theorem Jh_turn {n i s1 : Int} {st bk on ho : Int → Int} (h : Jh n st bk on ho) (hs1 : s1 ≠ 0) : Jh n (up1 st i s1) bk on ho := by
  intro j j0 j1 j2
  by_cases e : j = i
  · subst e
    rw [up1_s] at j2
    exact absurd j2 hs1
  · rw [up1_n _ _ e] at j2
    exact h j j0 j1 j2
theorem Jt_turn {n F i s1 : Int} {fl pl bk st ar : Int → Int} (h : Jt n F fl pl bk st ar) (hs1 : 0 ≤ s1 ∧ s1 ≤ 5) : Jt n F fl pl bk (up1 st i s1) ar := by
  intro j
  obtain ⟨q1, q2, q3, q4, q5⟩ := h j
  refine ⟨q1, q2, q3, ?_, q5⟩
  simp only [up1]
  split
  · exact hs1
  · exact q4
theorem Jt_ar {n F i v : Int} {fl pl bk st ar : Int → Int} (h : Jt n F fl pl bk st ar) (hv : -6 ≤ v ∧ v ≤ 2000000) : Jt n F fl pl bk st (up1 ar i v) := by
  intro j
  obtain ⟨q1, q2, q3, q4, q5⟩ := h j
  refine ⟨q1, q2, q3, q4, ?_⟩
  simp only [up1]
  split
  · exact hv
  · exact q5
theorem lastP_cong {out out' fl fl' pl pl' : Int → Int} {f : Int} : ∀ {k : Nat}, (∀ j : Int, 0 ≤ j → j < k → fl' (out' j) = fl (out j) ∧ pl' (out' j) = pl (out j)) → lastP out' fl' pl' f k = lastP out fl pl f k
  | 0, _ => rfl
  | k + 1, h => by
    have h1 := h k (by omega) (by omega)
    simp only [lastP, h1.1, h1.2, lastP_cong (k := k) (fun j a b => h j a (by omega))]
theorem mixP_cong {out out' fl fl' pl pl' : Int → Int} {f : Int} : ∀ {k : Nat}, (∀ j : Int, 0 ≤ j → j < k → fl' (out' j) = fl (out j) ∧ pl' (out' j) = pl (out j)) → mixP out' fl' pl' f k = mixP out fl pl f k
  | 0, _ => rfl
  | k + 1, h => by
    have h1 := h k (by omega) (by omega)
    have h2 : ∀ j : Int, 0 ≤ j → j < k → fl' (out' j) = fl (out j) ∧ pl' (out' j) = pl (out j) := fun j a b => h j a (by omega)
    simp only [mixP, h1.1, h1.2, mixP_cong h2, lastP_cong h2]
/-- counts of states that aren't 'out' change -/
theorem Jo_ins {n F : Int} {fl pl ins ins' out late mix : Int → Int} (h : Jo n F fl pl ins out late mix) (he : ins' 4 = ins 4) : Jo n F fl pl ins' out late mix := by
  unfold Jo
  rw [he]
  exact h
theorem Jo_out {n F i : Int} {fl pl ins ins' out late mix : Int → Int} (h : Jo n F fl pl ins out late mix) (hi : 0 ≤ i ∧ i < n) (h0 : 0 ≤ ins 4) (he : ins' 4 = ins 4 + 1) (hp : 0 ≤ pl i ∧ pl i ≤ 400) (hfl : fl i < F) :
    Jo n F fl pl ins' (up1 out (ins 4) i) (up1 late (fl i) (pl i)) (if pl i < late (fl i) then up1 mix (fl i) 1 else mix) := by
  obtain ⟨h1, h2, h3, h4⟩ := h
  have hn : (ins' 4).toNat = (ins 4).toNat + 1 := by omega
  have hc : (((ins 4).toNat : Nat) : Int) = ins 4 := by omega
  have hcg : ∀ j : Int, 0 ≤ j → j < (ins 4).toNat → fl (up1 out (ins 4) i j) = fl (out j) ∧ pl (up1 out (ins 4) i j) = pl (out j) := fun j a b => by
    rw [up1_n _ _ (by omega)]
    exact ⟨rfl, rfl⟩
  refine ⟨fun k k0 k1 => ?_, fun f f0 f1 => ?_, fun f => ?_, fun f hf => ?_⟩
  · by_cases e : k = ins 4
    · subst e
      rw [up1_s]
      exact hi
    · rw [up1_n _ _ e]
      exact h1 k k0 (by omega)
  · obtain ⟨g1, g2⟩ := h2 f f0 f1
    rw [hn]
    simp only [lastP, mixP, lastP_cong hcg, mixP_cong hcg]
    rw [hc, up1_s, ← g1]
    by_cases e : fl i = f
    · rw [if_pos e]
      subst e
      rw [up1_s]
      refine ⟨rfl, ?_⟩
      by_cases e2 : pl i < late (fl i)
      · rw [if_pos e2, up1_s]
        simp [e2, bi]
      · rw [if_neg e2, g2]
        simp [e2]
    · rw [if_neg e, up1_n _ _ (fun q => e q.symm)]
      refine ⟨rfl, ?_⟩
      have : (if pl i < late (fl i) then up1 mix (fl i) 1 else mix) f = mix f := by
        split
        · exact up1_n _ _ (fun q => e q.symm)
        · rfl
      rw [this, g2]
      simp [e]
  · simp only [up1]
    split
    · omega
    · exact h3 f
  · split
    · rw [up1_n _ _ (by omega)]; exact h4 f hf
    · exact h4 f hf
