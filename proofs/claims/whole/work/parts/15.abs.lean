/-! The class's state as a whole (rows by the class's cells) and its small steps. -/
def up1 (f : Int → Int) (i v : Int) : Int → Int := fun j => if j = i then v else f j
theorem up1_s (f : Int → Int) (i v : Int) : up1 f i v i = v := by simp [up1]
theorem up1_n (f : Int → Int) {i j : Int} (v : Int) (h : j ≠ i) : up1 f i v j = f j := by simp [up1, h]
theorem up1_e (f : Int → Int) (i v j : Int) : up1 f i v j = if j = i then v else f j := rfl
theorem up1_up1 (f : Int → Int) (i v w : Int) : up1 (up1 f i v) i w = up1 f i w := by funext j; simp only [up1]; split <;> rfl
theorem up1_id (f : Int → Int) (i : Int) : up1 f i (f i) = f := by funext j; simp only [up1]; split <;> simp_all
theorem mw_rs (S : Mem) (r : Nat) (i v : Int) : mw S r i v r = up1 (S r) i v := by funext j; simp [mw, up1]
theorem mw_rn (S : Mem) {r r' : Nat} (i v : Int) (h : r' ≠ r) : mw S r i v r' = S r' := mw_r S i v h
theorem mw_mw (S : Mem) (r : Nat) (i v w : Int) : mw (mw S r i v) r i w = mw S r i w := by funext a b; simp only [mw]; split <;> simp_all
theorem mw_id (S : Mem) (r : Nat) (i : Int) : mw S r i (S r i) = S := by funext a b; simp only [mw]; split <;> simp_all
theorem mem_ext {S T : Mem} (h : ∀ r, S r = T r) : S = T := funext h
/-! counts -/
theorem ct_cong {p q : Int → Bool} : ∀ {n : Nat}, (∀ j : Int, 0 ≤ j → j < n → p j = q j) → ct p n = ct q n
  | 0, _ => rfl
  | n + 1, h => by
    rw [ct_s, ct_s, ct_cong (n := n) (fun j h0 h1 => h j h0 (by omega)), h n (by omega) (by omega)]
def bi (b : Bool) : Int := if b = true then 1 else 0
theorem ct_s' (p : Int → Bool) (k : Nat) : ct p (k + 1) = ct p k + bi (p k) := rfl
theorem ct_chg {p q : Int → Bool} {i : Int} : ∀ {n : Nat}, 0 ≤ i → i < n → (∀ j : Int, j ≠ i → q j = p j) → ct q n = ct p n - bi (p i) + bi (q i)
  | 0, h0, h1, _ => by omega
  | n + 1, h0, h1, h => by
    by_cases hi : i = n
    · subst hi
      rw [ct_s', ct_s', ct_cong (n := n) (p := q) (q := p) (fun j _ h1 => h j (by omega))]
      omega
    · rw [ct_s', ct_s', ct_chg (n := n) h0 (by omega) h, h n (fun q => hi q.symm)]
      omega
theorem ct_pos {p : Int → Bool} {i : Int} : ∀ {n : Nat}, 0 ≤ i → i < n → p i = true → 1 ≤ ct p n
  | 0, h0, h1, _ => by omega
  | n + 1, h0, h1, h => by
    have h2 := ct_nn p n
    rw [ct_s']
    by_cases hi : i = n
    · subst hi
      rw [h]
      simp only [bi, if_true]
      omega
    · have := ct_pos (n := n) h0 (by omega) h
      unfold bi
      split <;> omega
theorem ct_zero {p : Int → Bool} : ∀ {n : Nat}, ct p n = 0 → ∀ i : Int, 0 ≤ i → i < n → p i = false := by
  intro n h i h0 h1
  cases hp : p i with
  | false => rfl
  | true => have := ct_pos (n := n) h0 h1 hp; omega
theorem ct_none {p : Int → Bool} : ∀ {n : Nat}, (∀ i : Int, 0 ≤ i → i < n → p i = false) → ct p n = 0
  | 0, _ => rfl
  | n + 1, h => by
    rw [ct_s', ct_none (n := n) (fun i h0 h1 => h i h0 (by omega)), h n (by omega) (by omega)]
    rfl
theorem ct_le {p q : Int → Bool} : ∀ {n : Nat}, (∀ i : Int, 0 ≤ i → i < n → p i = true → q i = true) → ct p n ≤ ct q n
  | 0, _ => Int.le_refl _
  | n + 1, h => by
    have h1 := ct_le (n := n) (fun i h0 h1 => h i h0 (by omega))
    have h2 := h n (by omega) (by omega)
    rw [ct_s', ct_s']
    unfold bi
    cases hp : p n <;> cases hq : q n <;> simp_all <;> omega
theorem ct_lt {p q : Int → Bool} {i : Int} : ∀ {n : Nat}, (∀ j : Int, 0 ≤ j → j < n → p j = true → q j = true) → 0 ≤ i → i < n → p i = false → q i = true → ct p n < ct q n
  | 0, _, h0, h1, _, _ => by omega
  | n + 1, h, h0, h1, hp, hq => by
    have e1 := ct_le (n := n) (fun i h0 h1 => h i h0 (by omega))
    have e2 := h n (by omega) (by omega)
    rw [ct_s', ct_s']
    by_cases hi : i = n
    · subst hi
      rw [hp, hq]
      simp only [bi, if_true]
      simp
      omega
    · have := ct_lt (n := n) (fun j a b => h j a (by omega)) h0 (by omega) hp hq
      unfold bi
      cases hp : p n <;> cases hq : q n <;> simp_all <;> omega
theorem ct_or {p q r : Int → Bool} : ∀ {n : Nat}, (∀ i : Int, 0 ≤ i → i < n → bi (p i) + bi (q i) = bi (r i)) → ct p n + ct q n = ct r n
  | 0, _ => rfl
  | n + 1, h => by
    have h1 := ct_or (n := n) (fun i h0 h1 => h i h0 (by omega))
    have h2 := h n (by omega) (by omega)
    rw [ct_s', ct_s', ct_s']
    omega
/-! small steps -/
abbrev qr (S : Mem) (l p : Int) : Int := S (11 + l.toNat) p
def aDec (S : Mem) (i : Int) : Mem := mw S 41 (S 34 i) (S 41 (S 34 i) - 1)
def aTurn (S : Mem) (i s : Int) : Mem := mw (mw (aDec S i) 41 s (aDec S i 41 s + 1)) 34 i s
def aEnq (S : Mem) (i l : Int) : Mem := aTurn (mw (mw (mw S (11 + l.toNat) (S 17 l) i) 17 l (S 17 l + 1)) 35 i l) i 1
/-- a held letter is queued: with the count of its bucket's held -/
def aEnqH (S : Mem) (i l : Int) : Mem := mw (aEnq S i l) 22 (S 33 i) (S 22 (S 33 i) - 1)
def aLeave1 (S : Mem) (l : Int) : Mem := mw (mw (aTurn (mw (mw S 37 (qr S l (S 16 l)) (S 5 0)) 38 (qr S l (S 16 l)) (S 5 0 + S 8 l)) (qr S l (S 16 l)) 2) 16 l (S 16 l + 1)) 18 l (S 18 l + 1)
def aNote (S : Mem) (f pl : Int) : Mem :=
  let S1 := mw S 27 f (S 27 f + 1)
  mw (if pl < S1 29 f then mw S1 30 f 1 else S1) 29 f pl
def aLetOut (S : Mem) (i : Int) : Mem :=
  let S1 := mw (aTurn (mw S 40 (S 41 4) i) i 4) 39 i (S 5 0)
  aNote S1 (S 31 i) (S 32 i)
def aArr1 (S : Mem) (l : Int) : Mem :=
  mw (if S 5 1 = 0 then aLetOut S (qr S l (S 15 l)) else aTurn S (qr S l (S 15 l)) 3) 15 l (S 15 l + 1)
/-! rows of the small steps -/
theorem aDec_41 (S : Mem) (i : Int) : aDec S i 41 = up1 (S 41) (S 34 i) (S 41 (S 34 i) - 1) := mw_rs _ _ _ _
theorem aDec_o (S : Mem) (i : Int) {r : Nat} (h : r ≠ 41) : aDec S i r = S r := mw_rn _ _ _ h
theorem aTurn_34 (S : Mem) (i s : Int) : aTurn S i s 34 = up1 (S 34) i s := by
  unfold aTurn
  rw [mw_rs, mw_rn _ _ _ (by decide), aDec_o _ _ (by decide)]
theorem aTurn_41 (S : Mem) (i s : Int) : aTurn S i s 41 = up1 (up1 (S 41) (S 34 i) (S 41 (S 34 i) - 1)) s (up1 (S 41) (S 34 i) (S 41 (S 34 i) - 1) s + 1) := by
  unfold aTurn
  rw [mw_rn _ _ _ (by decide), mw_rs, aDec_41]
theorem aTurn_o (S : Mem) (i s : Int) {r : Nat} (h : r ≠ 34) (h2 : r ≠ 41) : aTurn S i s r = S r := by
  unfold aTurn
  rw [mw_rn _ _ _ h, mw_rn _ _ _ h2, aDec_o _ _ h2]
