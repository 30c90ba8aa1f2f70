/-! Plans: a link for each bucket; of those that are even the one with the fewest moves, of equal ones the first. -/
def rk (t : Int → Int) : Nat → Int
  | 0 => 0
  | n + 1 => 4 * rk t n + t n
def dig (t : Int → Int) : Prop := ∀ b : Int, 0 ≤ b → b < 8 → 0 ≤ t b ∧ t b ≤ 3
theorem rk_inj {s t : Int → Int} (hs : dig s) (ht : dig t) : ∀ n : Nat, n ≤ 8 → rk s n = rk t n → ∀ b : Int, 0 ≤ b → b < n → s b = t b
  | 0, _, _, b, b0, b1 => by omega
  | n + 1, hn, h, b, b0, b1 => by
    have h1 := hs n (by omega) (by omega)
    have h2 := ht n (by omega) (by omega)
    simp only [rk] at h
    have e1 : rk s n = rk t n := by omega
    have e2 : s n = t n := by omega
    by_cases e : b = n
    · rw [e]; exact e2
    · exact rk_inj hs ht n (by omega) e1 b b0 (by omega)
theorem rk_cong {s t : Int → Int} : ∀ {n : Nat}, (∀ b : Int, 0 ≤ b → b < n → s b = t b) → rk s n = rk t n
  | 0, _ => rfl
  | n + 1, h => by simp only [rk]; rw [rk_cong (n := n) (fun b a c => h b a (by omega)), h n (by omega) (by omega)]
theorem rk_lt {s t : Int → Int} (hs : dig s) (ht : dig t) {b : Nat} (h : rk s b < rk t b) : ∀ n : Nat, b + n ≤ 8 → rk s (b + n) < rk t (b + n)
  | 0, _ => h
  | n + 1, hn => by
    have ih := rk_lt hs ht h n (by omega)
    have h1 := hs (b + n : Nat) (by omega) (by omega)
    have h2 := ht (b + n : Nat) (by omega) (by omega)
    rw [show b + (n + 1) = (b + n) + 1 by omega]
    simp only [rk]
    omega
theorem rk_le {s t : Int → Int} {b : Nat} (h : rk s b ≤ rk t b) : ∀ n : Nat, (∀ i : Int, b ≤ i → i < (b + n : Nat) → s i ≤ t i) → rk s (b + n) ≤ rk t (b + n)
  | 0, _ => h
  | n + 1, hn => by
    have ih := rk_le h n (fun i a c => hn i a (by push_cast at c ⊢; omega))
    have h1 := hn (b + n : Nat) (by omega) (by push_cast; omega)
    rw [show b + (n + 1) = (b + n) + 1 by omega]
    simp only [rk]
    omega
def Imp (E Q : (Int → Int) → Prop) (mv : (Int → Int) → Int) (F h : Int) (pl : Int → Int) (F' h' : Int) (pl' : Int → Int) : Prop :=
  (F' = F ∧ h' = h ∧ pl' = pl ∧ ∀ s, Q s → E s → F ≤ mv s) ∨ (F' < F ∧ h' = 1 ∧ ∃ t, Q t ∧ E t ∧ mv t = F' ∧ (∀ j, pl' j = if 0 ≤ j ∧ j < 8 then t j else pl j) ∧ ∀ s, Q s → E s → F' < mv s ∨ (F' = mv s ∧ rk t 8 ≤ rk s 8))
section IMP
variable {E Q Q' Q1 Q2 : (Int → Int) → Prop} {mv : (Int → Int) → Int} {F h F1 h1 F2 h2 : Int} {pl pl1 pl2 : Int → Int}
theorem Imp_tr (a : Imp E Q1 mv F h pl F1 h1 pl1) (b : Imp E Q2 mv F1 h1 pl1 F2 h2 pl2) (hlt : ∀ s1 s2, Q1 s1 → Q2 s2 → rk s1 8 ≤ rk s2 8) : Imp E (fun s => Q1 s ∨ Q2 s) mv F h pl F2 h2 pl2 := by
  rcases a with ⟨rfl, rfl, rfl, a4⟩ | ⟨a1, a2, t, a3, a4, a5, a6, a7⟩
  · rcases b with ⟨rfl, rfl, rfl, b4⟩ | ⟨b1, b2, t, b3, b4, b5, b6, b7⟩
    · exact Or.inl ⟨rfl, rfl, rfl, fun s hs he => by rcases hs with q | q; exact a4 s q he; exact b4 s q he⟩
    · refine Or.inr ⟨b1, b2, t, Or.inr b3, b4, b5, b6, fun s hs he => ?_⟩
      rcases hs with q | q
      · have := a4 s q he
        exact Or.inl (by omega)
      · exact b7 s q he
  · rcases b with ⟨rfl, rfl, rfl, b4⟩ | ⟨b1, b2, t2, b3, b4, b5, b6, b7⟩
    · refine Or.inr ⟨a1, a2, t, Or.inl a3, a4, a5, a6, fun s hs he => ?_⟩
      rcases hs with q | q
      · exact a7 s q he
      · have h1 := b4 s q he
        have h2 := hlt t s a3 q
        by_cases e : F2 = mv s
        · exact Or.inr ⟨e, h2⟩
        · exact Or.inl (by omega)
    · refine Or.inr ⟨by omega, b2, t2, Or.inr b3, b4, b5, fun j => ?_, fun s hs he => ?_⟩
      · rw [b6 j, a6 j]
        split <;> rfl
      · rcases hs with q | q
        · have := a7 s q he
          exact Or.inl (by omega)
        · exact b7 s q he
theorem Imp_iff (hq : ∀ s, Q s ↔ Q' s) (a : Imp E Q mv F h pl F1 h1 pl1) : Imp E Q' mv F h pl F1 h1 pl1 := by
  rcases a with ⟨a1, a2, a3, a4⟩ | ⟨a1, a2, t, a3, a4, a5, a6, a7⟩
  · exact Or.inl ⟨a1, a2, a3, fun s hs => a4 s ((hq s).mpr hs)⟩
  · exact Or.inr ⟨a1, a2, t, (hq t).mp a3, a4, a5, a6, fun s hs => a7 s ((hq s).mpr hs)⟩
theorem Imp_le (a : Imp E Q mv F h pl F1 h1 pl1) : F1 ≤ F := by
  rcases a with a | a
  · exact Int.le_of_eq a.1
  · exact Int.le_of_lt a.1
theorem Imp_no (hno : ∀ s, Q s → E s → F ≤ mv s) : Imp E Q mv F h pl F h pl := Or.inl ⟨rfl, rfl, rfl, hno⟩
theorem Imp_norm (hq : ∀ s, Q s → Q' s) (hn : ∀ s, Q' s → E s → ∃ s', Q s' ∧ E s' ∧ (mv s' < mv s ∨ (mv s' = mv s ∧ rk s' 8 = rk s 8))) (a : Imp E Q mv F h pl F1 h1 pl1) : Imp E Q' mv F h pl F1 h1 pl1 := by
  rcases a with ⟨a1, a2, a3, a4⟩ | ⟨a1, a2, t, a3, a4, a5, a6, a7⟩
  · refine Or.inl ⟨a1, a2, a3, fun s hs he => ?_⟩
    obtain ⟨s', b1, b2, b3⟩ := hn s hs he
    have := a4 s' b1 b2
    omega
  · refine Or.inr ⟨a1, a2, t, hq t a3, a4, a5, a6, fun s hs he => ?_⟩
    obtain ⟨s', b1, b2, b3⟩ := hn s hs he
    have := a7 s' b1 b2
    omega
theorem Imp_fun (hd : ∀ s, Q s → dig s) (a : Imp E Q mv F h pl F1 h1 pl1) (b : Imp E Q mv F h pl F2 h2 pl2) : F1 = F2 ∧ h1 = h2 ∧ pl1 = pl2 := by
  rcases a with ⟨a1, a2, a3, a4⟩ | ⟨a1, a2, t, a3, a4, a5, a6, a7⟩
  · rcases b with ⟨b1, b2, b3, b4⟩ | ⟨b1, b2, t2, b3, b4, b5, b6, b7⟩
    · exact ⟨by omega, by omega, by rw [a3, b3]⟩
    · have := a4 t2 b3 b4
      omega
  · rcases b with ⟨b1, b2, b3, b4⟩ | ⟨b1, b2, t2, b3, b4, b5, b6, b7⟩
    · have := b4 t a3 a4
      omega
    · have c1 := a7 t2 b3 b4
      have c2 := b7 t a3 a4
      have e : rk t 8 = rk t2 8 := by omega
      refine ⟨by omega, by omega, funext (fun j => ?_)⟩
      rw [a6 j, b6 j]
      split
      · rename_i hj
        exact rk_inj (hd t a3) (hd t2 b3) 8 (by omega) e j hj.1 hj.2
      · rfl
end IMP
/-! moves and loads of a plan -/
def mvN (on t : Int → Int) (n : Nat) : Int := ct (fun b => decide (t b ≠ on b)) n
def ldN (w t : Int → Int) (l : Int) (n : Nat) : Int := sm (fun b => if t b = l then w b else 0) n
def vld (up : Int → Int) (L : Int) (t : Int → Int) (n : Nat) : Prop := ∀ b : Int, 0 ≤ b → b < n → 0 ≤ t b ∧ t b < L ∧ up (t b) = 1
def wth (A W k : Int) (sp : Int → Int) (l x : Int) : Prop := x * A * 100 ≤ (100 + k) * W * sp l
def evn (A W k : Int) (sp up : Int → Int) (L : Int) (w t : Int → Int) : Prop := ∀ l, 0 ≤ l → l < L → up l = 1 → wth A W k sp l (ldN w t l 8)
theorem mvN_cong {on s t : Int → Int} {n : Nat} (h : ∀ b : Int, 0 ≤ b → b < n → s b = t b) : mvN on s n = mvN on t n := ct_cong (fun j a b => by rw [h j a b])
theorem ldN_cong {w s t : Int → Int} {l : Int} {n : Nat} (h : ∀ b : Int, 0 ≤ b → b < n → s b = t b) : ldN w s l n = ldN w t l n := sm_cong (fun j a b => by rw [h j a b])
theorem mvN_mono {on t : Int → Int} {b : Nat} : ∀ n : Nat, mvN on t b ≤ mvN on t (b + n)
  | 0 => Int.le_refl _
  | n + 1 => by
    have := mvN_mono (on := on) (t := t) (b := b) n
    rw [show b + (n + 1) = (b + n) + 1 by omega]
    unfold mvN at *
    rw [ct_s]
    split <;> omega
theorem ldN_mono {w t : Int → Int} {l : Int} (hw : ∀ i : Int, 0 ≤ i → i < 8 → 0 ≤ w i) {b : Nat} : ∀ n : Nat, b + n ≤ 8 → ldN w t l b ≤ ldN w t l (b + n)
  | 0, _ => Int.le_refl _
  | n + 1, hn => by
    have := ldN_mono (t := t) (l := l) hw (b := b) n (by omega)
    have h2 := hw (b + n : Nat) (by omega) (by omega)
    rw [show b + (n + 1) = (b + n) + 1 by omega]
    unfold ldN at *
    rw [sm_s]
    split <;> omega
theorem ldN_le {w t : Int → Int} {l : Int} (hw : ∀ i : Int, 0 ≤ i → i < 8 → 0 ≤ w i) : ∀ n : Nat, n ≤ 8 → 0 ≤ ldN w t l n ∧ ldN w t l n ≤ sm w n
  | 0, _ => ⟨Int.le_refl _, Int.le_refl _⟩
  | n + 1, hn => by
    have := ldN_le (t := t) (l := l) hw n (by omega)
    have h2 := hw n (by omega) (by omega)
    unfold ldN at *
    rw [sm_s, sm_s]
    split <;> omega
theorem sm_mono {w : Int → Int} (hw : ∀ i : Int, 0 ≤ i → i < 8 → 0 ≤ w i) {b : Nat} : ∀ n : Nat, b + n ≤ 8 → sm w b ≤ sm w (b + n)
  | 0, _ => Int.le_refl _
  | n + 1, hn => by
    have := sm_mono hw (b := b) n (by omega)
    have h2 := hw (b + n : Nat) (by omega) (by omega)
    rw [show b + (n + 1) = (b + n) + 1 by omega, sm_s]
    omega
theorem wth_mono {A W k : Int} {sp : Int → Int} {l x y : Int} (hA : 0 ≤ A) (hxy : x ≤ y) (h : wth A W k sp l y) : wth A W k sp l x := by
  unfold wth at *
  have : x * A ≤ y * A := Int.mul_le_mul_of_nonneg_right hxy hA
  omega
/-- the plans that go on as t up to b; buckets without load stay -/
def Qb (up : Int → Int) (L : Int) (w on : Int → Int) (t : Int → Int) (b : Nat) : (Int → Int) → Prop := fun s => vld up L s 8 ∧ (∀ j : Int, 0 ≤ j → j < b → s j = t j) ∧ (∀ j : Int, b ≤ j → j < 8 → w j = 0 → s j = on j)
def Qa (up : Int → Int) (L : Int) : (Int → Int) → Prop := fun s => vld up L s 8
theorem vld_dig {up : Int → Int} {L : Int} {t : Int → Int} (hL : L ≤ 4) (h : vld up L t 8) : dig t := fun b b0 b8 => by
  have := h b b0 b8
  omega
/-- putting one bucket without load back -/
theorem put_back {up on w : Int → Int} {L A W k : Int} {sp : Int → Int} (hon : vld up L on 8) {s : Int → Int} (hs : vld up L s 8) (he : evn A W k sp up L w s) : ∀ n : Nat, n ≤ 8 → ∃ s', vld up L s' 8 ∧ evn A W k sp up L w s' ∧ (∀ j : Int, 0 ≤ j → j < n → w j = 0 → s' j = on j) ∧ ((mvN on s' 8 < mvN on s 8) ∨ ∀ j : Int, 0 ≤ j → j < 8 → s' j = s j)
  | 0, _ => ⟨s, hs, he, fun j a b => by omega, Or.inr (fun j a b => rfl)⟩
  | n + 1, hn => by
    obtain ⟨s1, a1, a2, a3, a4⟩ := put_back (A := A) (W := W) (k := k) (sp := sp) hon hs he n (by omega)
    by_cases hc : w n = 0 ∧ s1 n ≠ on n
    · have e1 : ∀ l, ldN w (up1 s1 n (on n)) l 8 = ldN w s1 l 8 := fun l => sm_cong (fun j _ _ => by
        by_cases e : j = n
        · subst e
          rw [hc.1]
          split <;> split <;> rfl
        · rw [up1_n _ _ e])
      have e2 : mvN on (up1 s1 n (on n)) 8 < mvN on s1 8 := ct_lt (i := n) (fun j _ _ hj => by
        by_cases e : j = n
        · subst e
          rw [up1_s] at hj
          simp at hj
        · rw [up1_n _ _ e] at hj
          exact hj) (by omega) (by omega) (by rw [up1_s]; simp) (by simp [hc.2])
      refine ⟨up1 s1 n (on n), fun b b0 b8 => ?_, fun l l0 lL hu => ?_, fun j j0 j1 hw => ?_, Or.inl ?_⟩
      · rw [up1_e]
        split
        · exact hon n (by omega) (by omega)
        · exact a1 b b0 b8
      · rw [e1]; exact a2 l l0 lL hu
      · rw [up1_e]
        split
        · rename_i e; rw [e]
        · exact a3 j j0 (by omega) hw
      · rcases a4 with q | q
        · omega
        · have := mvN_cong (on := on) (n := 8) (fun b b0 b1 => q b b0 (by omega))
          omega
    · refine ⟨s1, a1, a2, fun j j0 j1 hw => ?_, a4⟩
      by_cases e : j = n
      · subst e
        by_cases e2 : s1 n = on n
        · exact e2
        · exact absurd ⟨hw, e2⟩ hc
      · exact a3 j j0 (by omega) hw
/-- all plans, where those that keep the buckets without load have been looked through -/
theorem Imp_all {up on w : Int → Int} {L A W k : Int} {sp : Int → Int} {t : Int → Int} {F h F1 h1 : Int} {pl pl1 : Int → Int} (hon : vld up L on 8) (a : Imp (evn A W k sp up L w) (Qb up L w on t 0) (fun s => mvN on s 8) F h pl F1 h1 pl1) : Imp (evn A W k sp up L w) (Qa up L) (fun s => mvN on s 8) F h pl F1 h1 pl1 := by
  refine Imp_norm (fun s hs => hs.1) (fun s hs he => ?_) a
  obtain ⟨s', b1, b2, b3, b4⟩ := put_back (A := A) (W := W) (k := k) (sp := sp) hon hs he 8 (by omega)
  refine ⟨s', ⟨b1, fun j a b => by omega, fun j a b hw => b3 j (by omega) (by omega) hw⟩, b2, ?_⟩
  rcases b4 with q | q
  · exact Or.inl q
  · exact Or.inr ⟨mvN_cong (fun b b0 b1 => q b b0 (by omega)), rk_cong (fun b b0 b1 => q b b0 (by omega))⟩
/-- loads of the links that are up: all loads -/
theorem ld_all {up w t : Int → Int} {L : Nat} : ∀ n : Nat, vld up L t n → sm (fun l => if up l = 1 then ldN w t l n else 0) L = sm w n
  | 0, _ => by
    have : ∀ m : Nat, sm (fun l => if up l = 1 then ldN w t l 0 else 0) m = 0 := fun m => by
      induction m with
      | zero => rfl
      | succ m ih => rw [sm_s, ih]; unfold ldN; simp [sm]
    rw [this]
    rfl
  | n + 1, h => by
    have ih := ld_all (w := w) n (fun b b0 b1 => h b b0 (by omega))
    obtain ⟨t0, t1, t2⟩ := h n (by omega) (by omega)
    rw [sm_s w n, ← ih]
    have e1 : w n = sm (fun l => if l = t n then (if up l = 1 then w n else 0) else 0) L := by rw [sm_one t0, if_pos t1, if_pos t2]
    rw [e1, ← sm_add]
    refine sm_cong (fun l _ _ => ?_)
    unfold ldN
    rw [sm_s]
    by_cases c1 : up l = 1 <;> by_cases c2 : l = t n
    · rw [if_pos c1, if_pos c1, if_pos c2, if_pos c1, if_pos c2.symm]
    · rw [if_pos c1, if_pos c1, if_neg c2, if_neg (fun q => c2 q.symm)]
    · rw [if_neg c1, if_neg c1, if_pos c2, if_neg c1]; rfl
    · rw [if_neg c1, if_neg c1, if_neg c2]; rfl
