/-! The pure pictures: values by numbers of cells ('ids'), a memory of whole numbers, and the world of cells that it stands for. -/
abbrev PV : Type := Option (Int ⊕ (Nat ⊕ Int))
abbrev vI (x : Int) : PV := some (.inl x)
abbrev vR (r : Nat) : PV := some (.inr (.inl r))
abbrev vL (x : Int) : PV := some (.inr (.inr x))
abbrev Mem : Type := Nat → Int → Int
def mw (M : Mem) (r : Nat) (i v : Int) : Mem := fun a b => if a = r ∧ b = i then v else M a b
def rng (x : Int) : Prop := -2147483648 ≤ x ∧ x ≤ 2147483647
def cv (ad : Nat → Nat) (v : PV) : Value := match v with
  | some (.inl x) => .int (Int32.ofInt x)
  | some (.inr (.inl r)) => .ref (ad r)
  | some (.inr (.inr x)) => .long (Int64.ofInt x)
  | none => .null
/-- the cells: an object (its class's number; a field: a number, or the cell that it holds), or an array (0 ints, 1 booleans, from 2 on: rows that begin at that cell; its length) -/
abbrev Shp : Type := (Nat × List (Option Nat)) ⊕ (Nat × Nat)
def shL : List Shp := [/- 0 -/ .inl (6, [some 1, some 2, some 3, some 4, some 5, some 6]),
  /- 1 -/ .inl (3, [none, some 7, some 8, some 9, some 10, some 15, some 16, some 17, some 18]),
  /- 2 -/ .inl (0, [some 19, some 20, some 21, some 22, some 23]),
  /- 3 -/ .inl (1, [none, none, none, some 24, some 25, some 26, some 27, some 28, some 29, some 30]),
  /- 4 -/ .inl (2, [none, some 31, some 32, some 33, some 34, some 35, some 36, some 37, some 38, some 39, some 40, some 41]),
  /- 5 -/ .inl (5, [none, none, some 1, some 2, some 3, some 4, some 42]),
  /- 6 -/ .inl (4, [none, some 43, some 1, some 2, some 3, some 44, some 45, some 46, none, none, none, none]),
  /- 7 -/ .inr (0, 4),
  /- 8 -/ .inr (0, 4),
  /- 9 -/ .inr (1, 4),
  /- 10 -/ .inr (11, 4),
  /- 11 -/ .inr (0, 400),
  /- 12 -/ .inr (0, 400),
  /- 13 -/ .inr (0, 400),
  /- 14 -/ .inr (0, 400),
  /- 15 -/ .inr (0, 4),
  /- 16 -/ .inr (0, 4),
  /- 17 -/ .inr (0, 4),
  /- 18 -/ .inr (0, 4),
  /- 19 -/ .inr (0, 8),
  /- 20 -/ .inr (0, 8),
  /- 21 -/ .inr (1, 8),
  /- 22 -/ .inr (0, 8),
  /- 23 -/ .inr (0, 8),
  /- 24 -/ .inr (0, 16),
  /- 25 -/ .inr (0, 16),
  /- 26 -/ .inr (0, 16),
  /- 27 -/ .inr (0, 16),
  /- 28 -/ .inr (0, 16),
  /- 29 -/ .inr (0, 16),
  /- 30 -/ .inr (1, 16),
  /- 31 -/ .inr (0, 400),
  /- 32 -/ .inr (0, 400),
  /- 33 -/ .inr (0, 400),
  /- 34 -/ .inr (0, 400),
  /- 35 -/ .inr (0, 400),
  /- 36 -/ .inr (0, 400),
  /- 37 -/ .inr (0, 400),
  /- 38 -/ .inr (0, 400),
  /- 39 -/ .inr (0, 400),
  /- 40 -/ .inr (0, 400),
  /- 41 -/ .inr (0, 6),
  /- 42 -/ .inr (1, 16),
  /- 43 -/ .inr (0, 8),
  /- 44 -/ .inr (0, 8),
  /- 45 -/ .inr (0, 4),
  /- 46 -/ .inr (0, 8),
  /- 47 -/ .inl (7, [none, none, some 48, some 49, some 50, some 51, some 52, some 53, some 54, some 55, none, some 56, some 57, none, none, none, none, some 58, some 59, some 60, some 61, some 62, some 63, some 64, some 65, some 66, some 67, some 68, none, none, some 69, none, some 70, some 71, some 72, some 73]),
  /- 48 -/ .inr (0, 4),
  /- 49 -/ .inr (0, 4),
  /- 50 -/ .inr (1, 4),
  /- 51 -/ .inr (0, 4),
  /- 52 -/ .inr (0, 8),
  /- 53 -/ .inr (0, 8),
  /- 54 -/ .inr (1, 8),
  /- 55 -/ .inr (0, 8),
  /- 56 -/ .inr (0, 16),
  /- 57 -/ .inr (0, 16),
  /- 58 -/ .inr (0, 400),
  /- 59 -/ .inr (0, 400),
  /- 60 -/ .inr (0, 400),
  /- 61 -/ .inr (0, 400),
  /- 62 -/ .inr (0, 400),
  /- 63 -/ .inr (0, 400),
  /- 64 -/ .inr (0, 400),
  /- 65 -/ .inr (0, 400),
  /- 66 -/ .inr (0, 400),
  /- 67 -/ .inr (0, 400),
  /- 68 -/ .inr (0, 400),
  /- 69 -/ .inr (0, 400),
  /- 70 -/ .inr (0, 8),
  /- 71 -/ .inr (0, 4),
  /- 72 -/ .inr (0, 8),
  /- 73 -/ .inr (0, 8)]
def shf : List Shp → Nat → Option Shp
  | [], _ => none
  | a :: _, 0 => some a
  | _ :: l, n + 1 => shf l n
def shp (r : Nat) : Option Shp := shf shL r
abbrev Cs : Type := ClassId × ClassId × ClassId
def fvl (ad : Nat → Nat) (M : Mem) (r k : Nat) (o : Option Nat) : Value := match o with
  | none => .int (Int32.ofInt (M r k))
  | some q => .ref (ad q)
def cel (cs : Cs) (ad : Nat → Nat) (M : Mem) (r : Nat) (sh : Shp) : va_E := match sh with
  | .inl (ci, fs) => .inr (ci, fs.mapIdx (fun k o => fvl ad M r k o))
  | .inr (0, n) => .inl (cs.1, n, .inl (fun j => Int32.ofInt (M r j)))
  | .inr (1, n) => .inl (cs.2.1, n, .inl (fun j => Int32.ofInt (M r j)))
  | .inr (b + 2, n) => .inl (cs.2.2, n, .inr (.inr (.inr (.inr (fun j => some (ad (b + 2 + j)))))))
def wld (cs : Cs) (ad : Nat → Nat) (M : Mem) : va_W := shL.mapIdx (fun r sh => (ad r, cel cs ad M r sh))
theorem shf_eq : ∀ (l : List Shp) (r : Nat), shf l r = l[r]?
  | [], r => by simp [shf]
  | a :: l, 0 => by simp [shf]
  | a :: l, r + 1 => by simp [shf, shf_eq l r]
theorem wld_get {cs : Cs} {ad : Nat → Nat} {M : Mem} {r : Nat} {sh : Shp} (h : shp r = some sh) : (wld cs ad M)[r]? = some (ad r, cel cs ad M r sh) := by
  unfold shp at h
  rw [shf_eq] at h
  simp [wld, List.getElem?_mapIdx, h]
theorem wld_len (cs : Cs) (ad : Nat → Nat) (M : Mem) : (wld cs ad M).length = 74 := by simp [wld, shL]
theorem wld_at {cs : Cs} {ad : Nat → Nat} {M : Mem} {r : Nat} {q : Nat × va_E} (h : (wld cs ad M)[r]? = some q) : ∃ sh, shp r = some sh ∧ q = (ad r, cel cs ad M r sh) := by
  simp only [wld, List.getElem?_mapIdx, Option.map_eq_some_iff] at h
  obtain ⟨sh, h1, h2⟩ := h
  exact ⟨sh, by unfold shp; rw [shf_eq]; exact h1, h2.symm⟩
theorem mw_s (M : Mem) (r : Nat) (i v : Int) : mw M r i v r i = v := by simp [mw]
theorem mw_r (M : Mem) {r r' : Nat} (i v : Int) (h : r' ≠ r) : mw M r i v r' = M r' := by funext b; simp [mw, h]
theorem mw_i (M : Mem) (r : Nat) {i i' : Int} (v : Int) (h : i' ≠ i) : mw M r i v r i' = M r i' := by simp [mw, h]
theorem mw_e (M : Mem) (r : Nat) (i v : Int) (r' : Nat) (i' : Int) : mw M r i v r' i' = if r' = r ∧ i' = i then v else M r' i' := rfl
theorem cel_other {cs : Cs} {ad : Nat → Nat} {M : Mem} {r r' : Nat} {i v : Int} {sh : Shp} (h : r' ≠ r) : cel cs ad (mw M r i v) r' sh = cel cs ad M r' sh := by
  have e : mw M r i v r' = M r' := mw_r M i v h
  rcases sh with ⟨ci, fs⟩ | ⟨k, n⟩
  · simp [cel, fvl, e]
  · match k with
    | 0 => simp [cel, e]
    | 1 => simp [cel, e]
    | b + 2 => rfl
theorem wld_set {cs : Cs} {ad : Nat → Nat} {M : Mem} {r : Nat} {i v : Int} {sh : Shp} {E : va_E} (h : shp r = some sh) (hE : E = cel cs ad (mw M r i v) r sh) : (wld cs ad M).set r (ad r, E) = wld cs ad (mw M r i v) := by
  subst hE
  apply List.ext_getElem?
  intro k
  unfold shp at h
  rw [shf_eq] at h
  have hl : r < shL.length := (List.getElem?_eq_some_iff.mp h).1
  by_cases hk : k = r
  · subst hk
    rw [List.getElem?_set_self (by simpa [wld] using hl)]
    simp [wld, List.getElem?_mapIdx, h]
  · rw [List.getElem?_set_ne (fun q => hk q.symm)]
    simp only [wld, List.getElem?_mapIdx]
    cases shL[k]? with
    | none => rfl
    | some sh' => simp [cel_other hk]
/-- numbers between Int and the machine's -/
theorem i32_toInt {x : Int} (h : rng x) : (Int32.ofInt x).toInt = x := by
  unfold rng at h
  rw [Int32.toInt_ofInt]
  exact Int.bmod_eq_of_le_mul_two (by simp [Int32.size]; omega) (by simp [Int32.size]; omega)
theorem i32_of (x : Int32) : Int32.ofInt x.toInt = x := Int32.ofInt_toInt x
theorem rng_of (x : Int32) : rng x.toInt := ⟨Int32.le_toInt x, by have := Int32.toInt_lt x; omega⟩
theorem i32_le {x y : Int} (hx : rng x) (hy : rng y) : Int32.ofInt x ≤ Int32.ofInt y ↔ x ≤ y := by rw [Int32.le_iff_toInt_le, i32_toInt hx, i32_toInt hy]
theorem i32_lt {x y : Int} (hx : rng x) (hy : rng y) : Int32.ofInt x < Int32.ofInt y ↔ x < y := by rw [Int32.lt_iff_toInt_lt, i32_toInt hx, i32_toInt hy]
theorem i32_eq {x y : Int} (hx : rng x) (hy : rng y) : Int32.ofInt x = Int32.ofInt y ↔ x = y := ⟨fun h => by rw [← i32_toInt hx, ← i32_toInt hy, h], fun h => by rw [h]⟩
theorem i32_clamp {i : Int} (h0 : 0 ≤ i) (h1 : i ≤ 2147483647) : (Int32.ofInt i).toNatClampNeg = i.toNat := by
  show (Int32.ofInt i).toInt.toNat = i.toNat
  rw [i32_toInt ⟨by omega, h1⟩]
theorem i32_in {i : Int} {n : Nat} (h0 : 0 ≤ i) (h1 : i < n) (hn : n < 2147483648) : vp_in (Int32.ofInt i) n := by
  rw [vp_in_iff, i32_toInt ⟨by omega, by omega⟩]
  exact ⟨h0, h1⟩
theorem rng_0 : rng 0 := ⟨by decide, by decide⟩
theorem i64_toInt {x : Int} (h0 : -9223372036854775808 ≤ x) (h1 : x ≤ 9223372036854775807) : (Int64.ofInt x).toInt = x := by
  rw [Int64.toInt_ofInt]
  exact Int.bmod_eq_of_le_mul_two (by simp [Int64.size]; omega) (by simp [Int64.size]; omega)
theorem upd_mw {M : Mem} {r : Nat} {i v : Int} (h0 : 0 ≤ i) (h1 : i ≤ 2147483647) : upd (fun j : Nat => Int32.ofInt (M r j)) (Int32.ofInt i).toNatClampNeg (Int32.ofInt v) = fun j : Nat => Int32.ofInt (mw M r i v r j) := by
  funext j
  rw [i32_clamp h0 h1]
  unfold upd mw
  by_cases hj : j = i.toNat
  · have : (j : Int) = i := by omega
    rw [if_pos hj, if_pos ⟨rfl, this⟩]
  · have : ¬ (j : Int) = i := by omega
    rw [if_neg hj, if_neg (fun q => this q.2)]
theorem obj_mw {ad : Nat → Nat} {M : Mem} {r k : Nat} {v : Int} {fs : List (Option Nat)} (hk : fs[k]? = some none) : (fs.mapIdx (fun j o => fvl ad M r j o)).set k (.int (Int32.ofInt v)) = fs.mapIdx (fun j o => fvl ad (mw M r k v) r j o) := by
  apply List.ext_getElem?
  intro j
  have hl : k < fs.length := (List.getElem?_eq_some_iff.mp hk).1
  by_cases hj : j = k
  · subst hj
    rw [List.getElem?_set_self (by simpa using hl)]
    simp [List.getElem?_mapIdx, hk, fvl, mw]
  · rw [List.getElem?_set_ne (fun q => hj q.symm)]
    simp only [List.getElem?_mapIdx]
    cases fs[j]? with
    | none => rfl
    | some o =>
      have : ¬ (j : Int) = (k : Int) := by omega
      cases o <;> simp [fvl, mw, this]
