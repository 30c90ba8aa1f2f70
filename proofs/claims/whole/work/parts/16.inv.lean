/-! What always holds of the class's state. Each part speaks of rows as functions. -/
theorem ct_st {st : Int → Int} {n : Nat} {i s1 : Int} (h0 : 0 ≤ i) (h1 : i < n) (s : Int) : ct (fun j => decide (up1 st i s1 j = s)) n = ct (fun j => decide (st j = s)) n - (if st i = s then 1 else 0) + (if s1 = s then 1 else 0) := by
  rw [ct_chg (p := fun j => decide (st j = s)) (q := fun j => decide (up1 st i s1 j = s)) h0 h1 (fun j hj => by simp only [up1_n st s1 hj])]
  simp only [up1_s, bi, decide_eq_true_eq]
theorem ct_st2 {st g : Int → Int} {n : Nat} {i s1 : Int} (h0 : 0 ≤ i) (h1 : i < n) (s v : Int) : ct (fun j => decide (up1 st i s1 j = s ∧ g j = v)) n = ct (fun j => decide (st j = s ∧ g j = v)) n - (if st i = s ∧ g i = v then 1 else 0) + (if s1 = s ∧ g i = v then 1 else 0) := by
  rw [ct_chg (p := fun j => decide (st j = s ∧ g j = v)) (q := fun j => decide (up1 st i s1 j = s ∧ g j = v)) h0 h1 (fun j hj => by simp only [up1_n st s1 hj])]
  simp only [up1_s, bi, decide_eq_true_eq]
theorem ct_st3 {st g : Int → Int} {n : Nat} {i s1 l1 : Int} (h0 : 0 ≤ i) (h1 : i < n) (s v : Int) : ct (fun j => decide (up1 st i s1 j = s ∧ up1 g i l1 j = v)) n = ct (fun j => decide (st j = s ∧ g j = v)) n - (if st i = s ∧ g i = v then 1 else 0) + (if s1 = s ∧ l1 = v then 1 else 0) := by
  rw [ct_chg (p := fun j => decide (st j = s ∧ g j = v)) (q := fun j => decide (up1 st i s1 j = s ∧ up1 g i l1 j = v)) h0 h1 (fun j hj => by simp only [up1_n st s1 hj, up1_n g l1 hj])]
  simp only [up1_s, bi, decide_eq_true_eq]
theorem turn_val (g : Int → Int) (a c s : Int) : up1 (up1 g a (g a - 1)) c (up1 g a (g a - 1) c + 1) s = g s - (if s = a then 1 else 0) + (if s = c then 1 else 0) := by
  simp only [up1]
  split <;> split <;> simp_all <;> omega
/-- counts by states -/
def Ks (n : Int) (st ins : Int → Int) : Prop := ∀ s, 0 ≤ s → s < 6 → ins s = ct (fun j => decide (st j = s)) n.toNat
def Kh (n : Int) (st bk held : Int → Int) : Prop := ∀ b, 0 ≤ b → b < 8 → held b = ct (fun j => decide (st j = 0 ∧ bk j = b)) n.toNat
def Kf (n : Int) (st fl sent came lost : Int → Int) : Prop := ∀ f, 0 ≤ f → f < 16 → sent f = ct (fun j => decide (fl j = f)) n.toNat ∧ came f = ct (fun j => decide (st j = 4 ∧ fl j = f)) n.toNat ∧ lost f = ct (fun j => decide (st j = 5 ∧ fl j = f)) n.toNat
def Kl (n : Int) (st lk ws qs qe : Int → Int) : Prop := ∀ l, 0 ≤ l → l < 4 → qe l = ct (fun j => decide (lk j = l)) n.toNat ∧ qe l - qs l = ct (fun j => decide (st j = 1 ∧ lk j = l)) n.toNat ∧ qs l - ws l = ct (fun j => decide (st j = 2 ∧ lk j = l)) n.toNat
/-- queues -/
def Jq (n tm : Int) (lo st lk ar dl up ws qs qe : Int → Int) (rw : Int → Int → Int) : Prop := ∀ l, 0 ≤ l → l < 4 →
  (0 ≤ ws l ∧ ws l ≤ qs l ∧ qs l ≤ qe l) ∧
  (∀ p, 0 ≤ p → p < qe l → (0 ≤ rw l p ∧ rw l p < n ∧ lk (rw l p) = l) ∧ (p < ws l → 3 ≤ st (rw l p)) ∧ (ws l ≤ p → p < qs l → st (rw l p) = 2 ∧ lo l < ar (rw l p) ∧ ar (rw l p) ≤ tm + dl l) ∧ (qs l ≤ p → st (rw l p) = 1)) ∧
  (∀ p p', 0 ≤ p → p < p' → p' < qe l → rw l p ≠ rw l p') ∧
  (∀ p p', ws l ≤ p → p ≤ p' → p' < qs l → ar (rw l p) ≤ ar (rw l p')) ∧
  (up l = 0 → ws l = qe l)
def Ji (n L : Int) (st lk qe : Int → Int) (rw : Int → Int → Int) : Prop := ∀ i, 0 ≤ i → i < n → (lk i = -6 ∧ st i = 0) ∨ (0 ≤ lk i ∧ lk i < L ∧ 1 ≤ st i ∧ ∃ p, 0 ≤ p ∧ p < qe (lk i) ∧ rw (lk i) p = i)
/-- what came out -/
def lastP (out fl pl : Int → Int) (f : Int) : Nat → Int
  | 0 => -6
  | k + 1 => if fl (out k) = f then pl (out k) else lastP out fl pl f k
def mixP (out fl pl : Int → Int) (f : Int) : Nat → Bool
  | 0 => false
  | k + 1 => mixP out fl pl f k || (decide (fl (out k) = f) && decide (pl (out k) < lastP out fl pl f k))
def Jo (n F : Int) (fl pl ins out late mix : Int → Int) : Prop :=
  (∀ k, 0 ≤ k → k < ins 4 → 0 ≤ out k ∧ out k < n) ∧
  (∀ f, 0 ≤ f → f < F → late f = lastP out fl pl f (ins 4).toNat ∧ mix f = bi (mixP out fl pl f (ins 4).toNat)) ∧
  (∀ f, -6 ≤ late f ∧ late f ≤ 400) ∧ (∀ f, F ≤ f → mix f = 0)
def Ja (S : Mem) : Prop := (0 ≤ S 1 0 ∧ S 1 0 ≤ 4) ∧ (0 ≤ S 3 0 ∧ S 3 0 ≤ 16) ∧ (0 ≤ S 4 0 ∧ S 4 0 ≤ 400) ∧ (0 ≤ S 5 0 ∧ S 5 0 ≤ 1000000) ∧ (S 5 1 = 0 ∨ S 5 1 = 1) ∧ (0 ≤ S 3 1 ∧ S 3 1 ≤ 7) ∧ (0 ≤ S 3 2 ∧ S 3 2 ≤ 7) ∧ (S 6 0 = 0 ∨ S 6 0 = 1)
def Jl (L : Int) (sp dl up : Int → Int) : Prop := (∀ l, 0 ≤ l → l < L → 1 ≤ sp l ∧ 1 ≤ dl l) ∧ (∀ l, up l = 0 ∨ (up l = 1 ∧ 0 ≤ l ∧ l < L)) ∧ (∀ l, 0 ≤ sp l ∧ sp l ≤ 8 ∧ 0 ≤ dl l ∧ dl l ≤ 30)
/-- buckets; x: a link that has just failed -/
def Jb (L x : Int) (up on to ho : Int → Int) : Prop := ∀ b, (on b = -6 ∨ (0 ≤ on b ∧ on b < L ∧ (up (on b) = 1 ∨ on b = x))) ∧ (to b = -6 ∨ (0 ≤ to b ∧ to b < L ∧ (up (to b) = 1 ∨ to b = x) ∧ on b ≠ -6 ∧ to b ≠ on b)) ∧ (ho b = 0 ∨ ho b = 1) ∧ (ho b = 1 → on b ≠ -6) ∧ (b < 0 ∨ 8 ≤ b → on b = -6 ∧ to b = -6)
/-- where a link is up each bucket is on one (x is -2: while a link takes them) -/
def Jn (x : Int) (up on : Int → Int) : Prop := x ≠ -2 → (∃ l, up l = 1) → ∀ b, 0 ≤ b → b < 8 → on b ≠ -6
def Jh (n : Int) (st bk on ho : Int → Int) : Prop := ∀ i, 0 ≤ i → i < n → st i = 0 → ho (bk i) = 1 ∨ on (bk i) = -6
def Jf (ra pn : Int → Int) : Prop := ∀ f, (0 ≤ ra f ∧ ra f ≤ 100) ∧ -1 ≤ pn f ∧ pn f ≤ 7
def Jt (n F : Int) (fl pl bk st ar : Int → Int) : Prop := ∀ i, (0 ≤ fl i ∧ fl i < 16 ∧ (0 ≤ i → i < n → fl i < F)) ∧ (0 ≤ pl i ∧ pl i ≤ 400) ∧ (0 ≤ bk i ∧ bk i < 8) ∧ (0 ≤ st i ∧ st i ≤ 5) ∧ (-6 ≤ ar i ∧ ar i ≤ 2000000)
def AI (S : Mem) (lo : Int → Int) (x : Int) : Prop :=
  Ja S ∧ Jl (S 1 0) (S 7) (S 8) (S 9) ∧ Jb (S 1 0) x (S 9) (S 19) (S 20) (S 21) ∧ Jn x (S 9) (S 19) ∧ Jh (S 4 0) (S 34) (S 33) (S 19) (S 21) ∧ Jf (S 24) (S 25) ∧
  Jt (S 4 0) (S 3 0) (S 31) (S 32) (S 33) (S 34) (S 38) ∧
  Ks (S 4 0) (S 34) (S 41) ∧ Kh (S 4 0) (S 34) (S 33) (S 22) ∧ Kf (S 4 0) (S 34) (S 31) (S 26) (S 27) (S 28) ∧ Kl (S 4 0) (S 34) (S 35) (S 15) (S 16) (S 17) ∧
  Jq (S 4 0) (S 5 0) lo (S 34) (S 35) (S 38) (S 8) (S 9) (S 15) (S 16) (S 17) (qr S) ∧ Ji (S 4 0) (S 1 0) (S 34) (S 35) (S 17) (qr S) ∧
  Jo (S 4 0) (S 3 0) (S 31) (S 32) (S 41) (S 40) (S 29) (S 30)
/-! a letter changes its state -/
theorem Ks_turn {n i s1 : Int} {st ins : Int → Int} (h : Ks n st ins) (h0 : 0 ≤ i) (h1 : i < n) : Ks n (up1 st i s1) (up1 (up1 ins (st i) (ins (st i) - 1)) s1 (up1 ins (st i) (ins (st i) - 1) s1 + 1)) := by
  intro s a b
  rw [turn_val, ct_st h0 (by omega), h s a b]
  by_cases e1 : s = st i <;> by_cases e2 : s = s1 <;> simp_all <;> omega
theorem Kh_turn {n i s1 : Int} {st bk held : Int → Int} (h : Kh n st bk held) (h0 : 0 ≤ i) (h1 : i < n) (hs : st i ≠ 0) (hs1 : s1 ≠ 0) : Kh n (up1 st i s1) bk held := by
  intro b h2 h3
  rw [ct_st2 h0 (by omega), h b h2 h3]
  simp [hs, hs1]
theorem Kh_enq {n i s1 : Int} {st bk held : Int → Int} (h : Kh n st bk held) (h0 : 0 ≤ i) (h1 : i < n) (hs : st i = 0) (hs1 : s1 ≠ 0) : Kh n (up1 st i s1) bk (up1 held (bk i) (held (bk i) - 1)) := by
  intro b h2 h3
  rw [ct_st2 h0 (by omega), up1_e]
  by_cases e : b = bk i
  · subst e
    simp [hs, hs1, h (bk i) h2 h3]
  · simp [e, Ne.symm e, hs, hs1, h b h2 h3]
theorem Kf_turn {n i s1 : Int} {st fl sent came lost : Int → Int} (h : Kf n st fl sent came lost) (h0 : 0 ≤ i) (h1 : i < n) (hs : st i ≠ 4 ∧ st i ≠ 5) (hs1 : s1 ≠ 4 ∧ s1 ≠ 5) : Kf n (up1 st i s1) fl sent came lost := by
  intro f h2 h3
  rw [ct_st2 h0 (by omega), ct_st2 h0 (by omega)]
  have := h f h2 h3
  simp [hs, hs1, this]
theorem Kf_out {n i : Int} {st fl sent came lost : Int → Int} (h : Kf n st fl sent came lost) (h0 : 0 ≤ i) (h1 : i < n) (hs : st i ≠ 4 ∧ st i ≠ 5) : Kf n (up1 st i 4) fl sent (up1 came (fl i) (came (fl i) + 1)) lost := by
  intro f h2 h3
  rw [ct_st2 h0 (by omega), ct_st2 h0 (by omega), up1_e]
  have h4 := h f h2 h3
  by_cases e : f = fl i
  · subst e
    simp [hs, h4]
  · simp [e, Ne.symm e, hs, h4]
theorem Kl_turn {n i s1 : Int} {st lk ws qs qe : Int → Int} (h : Kl n st lk ws qs qe) (h0 : 0 ≤ i) (h1 : i < n) (hs : st i ≠ 1 ∧ st i ≠ 2) (hs1 : s1 ≠ 1 ∧ s1 ≠ 2) : Kl n (up1 st i s1) lk ws qs qe := by
  intro l h2 h3
  have h4 := h l h2 h3
  rw [ct_st2 h0 (by omega), ct_st2 h0 (by omega), ← h4.1, ← h4.2.1, ← h4.2.2]
  simp [hs, hs1]
theorem Kl_enq {n i l1 : Int} {st lk ws qs qe : Int → Int} (h : Kl n st lk ws qs qe) (h0 : 0 ≤ i) (h1 : i < n) (hs : st i = 0) (hl : lk i = -6) : Kl n (up1 st i 1) (up1 lk i l1) ws qs (up1 qe l1 (qe l1 + 1)) := by
  intro l h2 h3
  have h4 := h l h2 h3
  rw [ct_st3 h0 (by omega), ct_st3 h0 (by omega), ct_st h0 (by omega), up1_e, ← h4.1, ← h4.2.1, ← h4.2.2]
  by_cases e : l = l1
  · subst e
    simp [hs, hl, show ¬ (-6 : Int) = l by omega]
    omega
  · simp [e, Ne.symm e, hs, hl, show ¬ (-6 : Int) = l by omega]
theorem Kl_leave {n i l1 : Int} {st lk ws qs qe : Int → Int} (h : Kl n st lk ws qs qe) (h0 : 0 ≤ i) (h1 : i < n) (hs : st i = 1) (hl : lk i = l1) : Kl n (up1 st i 2) lk ws (up1 qs l1 (qs l1 + 1)) qe := by
  intro l h2 h3
  have h4 := h l h2 h3
  rw [ct_st2 h0 (by omega), ct_st2 h0 (by omega), up1_e, ← h4.1, ← h4.2.1, ← h4.2.2]
  by_cases e : l = l1
  · subst e
    simp [hs, hl]
    omega
  · simp [e, hs, hl, Ne.symm e]
theorem Kl_arr {n i l1 s1 : Int} {st lk ws qs qe : Int → Int} (h : Kl n st lk ws qs qe) (h0 : 0 ≤ i) (h1 : i < n) (hs : st i = 2) (hs1 : s1 ≠ 1 ∧ s1 ≠ 2) (hl : lk i = l1) : Kl n (up1 st i s1) lk (up1 ws l1 (ws l1 + 1)) qs qe := by
  intro l h2 h3
  have h4 := h l h2 h3
  rw [ct_st2 h0 (by omega), ct_st2 h0 (by omega), up1_e, ← h4.1, ← h4.2.1, ← h4.2.2]
  by_cases e : l = l1
  · subst e
    simp [hs, hl, hs1]
    omega
  · simp [e, hs, hl, hs1, Ne.symm e]
