/-! A method's frame over the pure pictures: what it must know of the machine (gC), what 'from here it comes to Post' says (gV), a call's contract (gOk). -/
/-- the tables' words that last -/
def lw_g : List Cond := lw_tbl.filter goodWord
theorem lw_gm {w : Cond} (i : Nat) (h : lw_tbl[i]? = some w) (hg : goodWord w = true) : w ∈ lw_g := List.mem_filter.mpr ⟨List.mem_of_getElem? h, hg⟩
/-- a row of a method's code: its pc, the next pc, where it jumps to (0: nowhere), the instruction -/
abbrev Row : Type := Nat × Nat × Nat × Instr
/-- a method: name, code, locals, answer's type; its class's field entries (index of the pool, class's number, field's place, 0 int 1 boolean 2 reference, the place once more); its rows -/
abbrev Mt : Type := MethodName × ByteArray × Nat × Option FieldType × List (Nat × Nat × Nat × Nat × Int) × List Row
def jmp (pc tgt : Nat) (ins : Instr) : Bool := match ins with
  | .goto off => decide ((pc : Int) + off = (tgt : Int))
  | .if_icmp _ off => decide ((pc : Int) + off = (tgt : Int))
  | .ifCond _ off => decide ((pc : Int) + off = (tgt : Int))
  | .bipush n => decide ((Int8.ofInt n).toInt32 = Int32.ofInt n)
  | .sipush n => decide ((Int16.ofInt n).toInt32 = Int32.ofInt n)
  | _ => true
def iln (pc nx : Nat) (ins : Instr) : Nat := match ins with
  | .bipush _ => 2
  | .iload _ => 2
  | .istore _ => 2
  | .aload _ => 2
  | .sipush _ => 3
  | .getfield _ => 3
  | .putfield _ => 3
  | .iinc _ _ => 3
  | .goto _ => 3
  | .if_icmp _ _ => 3
  | .ifCond _ _ => 3
  | .invokevirtual _ => 3
  | .invokestatic _ => 3
  | .invokespecial _ => 3
  | .ldc2_w _ => 3
  | .new _ => 3
  | .tableswitch _ _ _ _ => nx - pc
  | _ => 1
abbrev rowOk (cc : ByteArray) (e : Row) : Prop := decode cc e.1 = .ok (e.2.2.2, iln e.1 e.2.1 e.2.2.2) ∧ e.2.1 = e.1 + iln e.1 e.2.1 e.2.2.2 ∧ jmp e.1 e.2.2.1 e.2.2.2 = true
def fldOk (own : String) (f : Nat × Nat × Nat × Nat × Int) : Prop := f.2.2.2.2 = (f.2.2.1 : Int) ∧ ∃ (C : String) (T : u_T) (N : Nat), vwCl[f.2.1]? = some (C, T, N) ∧ f.2.2.1 < N ∧ Cond.fieldLink own f.1 (T f.2.2.1).1 (T f.2.2.1).2.1 (T f.2.2.1).2.2.1 ∈ lw_g ∧ (f.2.2.2.1 = 0 → (T f.2.2.1).2.2.1 = "I" ∧ (T f.2.2.1).2.2.2 = false) ∧ (f.2.2.2.1 = 1 → (T f.2.2.1).2.2.1 = "Z" ∧ (T f.2.2.1).2.2.2 = false)
def mtOk (mt : Mt) : Prop := plainName mt.1.cls = true ∧ (∀ e ∈ mt.2.2.2.2.2, rowOk mt.2.1 e) ∧ (∀ f ∈ mt.2.2.2.2.1, fldOk mt.1.cls f) ∧ mt.2.2.1 ≤ 20 ∧ Cond.code mt.1 mt.2.1 mt.2.2.1 mt.2.2.2.1 ∈ lw_g
def lk (pc : Nat) : List Row → Option (Nat × Nat × Instr)
  | [] => none
  | e :: l => bif Nat.beq e.1 pc then some e.2 else lk pc l
theorem lk_mem {pc : Nat} {x : Nat × Nat × Instr} : ∀ {l : List Row}, lk pc l = some x → (pc, x) ∈ l
  | [], h => by cases h
  | e :: l, h => by
    unfold lk at h
    cases hb : Nat.beq e.1 pc with
    | true =>
      rw [hb] at h
      have h1 : e.2 = x := Option.some.inj h
      have h2 : e.1 = pc := Nat.eq_of_beq_eq_true hb
      rw [← h1, ← h2]
      exact List.mem_cons_self
    | false =>
      rw [hb] at h
      exact List.mem_cons_of_mem _ (lk_mem h)
def fk (ix : Nat) : List (Nat × Nat × Nat × Nat × Int) → Option (Nat × Nat × Nat × Int)
  | [] => none
  | e :: l => bif Nat.beq e.1 ix then some e.2 else fk ix l
theorem fk_mem {ix : Nat} {x : Nat × Nat × Nat × Int} : ∀ {l : List (Nat × Nat × Nat × Nat × Int)}, fk ix l = some x → (ix, x) ∈ l
  | [], h => by cases h
  | e :: l, h => by
    unfold fk at h
    cases hb : Nat.beq e.1 ix with
    | true =>
      rw [hb] at h
      have h1 : e.2 = x := Option.some.inj h
      have h2 : e.1 = ix := Nat.eq_of_beq_eq_true hb
      rw [← h1, ← h2]
      exact List.mem_cons_self
    | false =>
      rw [hb] at h
      exact List.mem_cons_of_mem _ (fk_mem h)
def nth : List PV → Nat → PV
  | [], _ => none
  | v :: _, 0 => v
  | _ :: l, n + 1 => nth l n
/-- a place is set; what goes on sees the list itself -/
def stk {α : Type} : List PV → Nat → PV → (List PV → Option α) → Option α
  | [], _, _, _ => none
  | _ :: l, 0, v, k => k (v :: l)
  | a :: l, n + 1, v, k => stk l n v (fun l' => k (a :: l'))
theorem nth_eq : ∀ (l : List PV) (k : Nat) (v : Int ⊕ (Nat ⊕ Int)), nth l k = some v → l[k]? = some (some v)
  | [], k, v, h => by cases h
  | a :: l, 0, v, h => by simpa [nth] using h
  | a :: l, k + 1, v, h => by simpa using nth_eq l k v h
theorem stk_eq {α : Type} {x : α} : ∀ (l : List PV) (n : Nat) (v : PV) (k : List PV → Option α), stk l n v k = some x → n < l.length ∧ k (l.set n v) = some x
  | [], n, v, k, h => by cases h
  | a :: l, 0, v, k, h => ⟨by simp, h⟩
  | a :: l, n + 1, v, k, h => by
    have := stk_eq l n v (fun l' => k (a :: l')) h
    exact ⟨by simp; exact this.1, by simpa using this.2⟩
/-- the listed locals -/
def lal (ad : Nat → Nat) (lv : List PV) : List (Nat × Value) := (lv.mapIdx (fun k v => (k, v))).filterMap (fun q => match q.2 with
  | some (.inl x) => some (q.1, .int (Int32.ofInt x))
  | some (.inr (.inl r)) => some (q.1, .ref (ad r))
  | _ => none)
theorem lal_mem {ad : Nat → Nat} {lv : List PV} {k : Nat} {w : Value} : (k, w) ∈ lal ad lv ↔ (∃ x, lv[k]? = some (vI x) ∧ w = .int (Int32.ofInt x)) ∨ (∃ r, lv[k]? = some (vR r) ∧ w = .ref (ad r)) := by
  unfold lal
  rw [List.mem_filterMap]
  constructor
  · rintro ⟨⟨j, v⟩, h1, h2⟩
    have h3 : lv[j]? = some v := by
      obtain ⟨i, hi⟩ := List.getElem?_of_mem h1
      simp only [List.getElem?_mapIdx, Option.map_eq_some_iff, Prod.mk.injEq] at hi
      obtain ⟨z, h4, rfl, rfl⟩ := hi
      exact h4
    rcases v with _ | x | r | x
    · simp at h2
    · simp at h2
      obtain ⟨rfl, rfl⟩ := h2
      exact Or.inl ⟨x, h3, rfl⟩
    · simp at h2
      obtain ⟨rfl, rfl⟩ := h2
      exact Or.inr ⟨r, h3, rfl⟩
    · simp at h2
  · rintro (⟨x, h1, rfl⟩ | ⟨r, h1, rfl⟩)
    · refine ⟨(k, vI x), ?_, rfl⟩
      refine List.mem_of_getElem? (i := k) ?_
      simp [List.getElem?_mapIdx, h1]
    · refine ⟨(k, vR r), ?_, rfl⟩
      refine List.mem_of_getElem? (i := k) ?_
      simp [List.getElem?_mapIdx, h1]
def gL (ad : Nat → Nat) (ls : Array Slot) (nL : Nat) (lv : List PV) : Prop := lv.length ≤ nL ∧ lv_has ls nL (lal ad lv)
theorem gL_int {ad : Nat → Nat} {ls : Array Slot} {nL k : Nat} {lv : List PV} {x : Int} (h : gL ad ls nL lv) (hk : nth lv k = vI x) : ls[k]? = some (.val (.int (Int32.ofInt x))) :=
  h.2.2.2 (k, _) (lal_mem.mpr (Or.inl ⟨x, nth_eq _ _ _ hk, rfl⟩))
theorem gL_ref {ad : Nat → Nat} {ls : Array Slot} {nL k : Nat} {lv : List PV} {r : Nat} (h : gL ad ls nL lv) (hk : nth lv k = vR r) : ls[k]? = some (.val (.ref (ad r))) :=
  h.2.2.2 (k, _) (lal_mem.mpr (Or.inr ⟨r, nth_eq _ _ _ hk, rfl⟩))
theorem gL_set {ad : Nat → Nat} {ls ls' : Array Slot} {nL k : Nat} {lv : List PV} {x : Int} (h : gL ad ls nL lv) (hk : k < lv.length) (h' : lv_has ls' nL ((k, Value.int (Int32.ofInt x)) :: (lal ad lv).filter (fun q => !(q.1 == k) && !(q.1 + 1 == k && q.2.category == 2)))) : gL ad ls' nL (lv.set k (vI x)) := by
  refine ⟨by simpa using h.1, h'.1, h'.2.1, ?_⟩
  rintro ⟨j, w⟩ hq
  refine h'.2.2 (j, w) ?_
  by_cases hj : j = k
  · subst hj
    rw [lal_mem, List.getElem?_set_self hk] at hq
    rcases hq with ⟨y, h1, rfl⟩ | ⟨r, h1, rfl⟩
    · cases h1
      exact List.mem_cons_self
    · cases h1
  · rw [lal_mem, List.getElem?_set_ne (fun q => hj q.symm)] at hq
    refine List.mem_cons_of_mem _ (List.mem_filter.mpr ⟨lal_mem.mpr hq, ?_⟩)
    rcases hq with ⟨y, h1, rfl⟩ | ⟨r, h1, rfl⟩ <;> simp [hj, Value.category]
/-- what a value pushes -/
def rp (r : PV) (st : List PV) : List PV := match r with
  | none => st
  | some v => some v :: st
def rv (ad : Nat → Nat) (r : PV) : Option Value := match r with
  | none => none
  | some v => some (cv ad (some v))
/-- the answer is of the method's type -/
def rOk (ret : Option FieldType) (r : PV) : Prop := match ret, r with
  | none, none => True
  | some .int, some (.inl _) => True
  | some .boolean, some (.inl x) => x = 0 ∨ x = 1
  | _, _ => False
def gTys (cs : Cs) : List (ClassId × FieldType) := [(cs.1, .int), (cs.2.1, .boolean), (cs.2.2, .array .int)]
section GG
variable (p : Program) (l : Launch) (e : Env) (R : Room) (s : State) (m : MethodId) (args : Array Value) (below : List Frame) (meth : Method) (c : Code) (cells slots : Nat) (Q : State → Prop) (D : va_G) (ad : Nat → Nat) (A : Nat → Prop) (H0 : Heap) (cs : Cs)
def gC (mt : Mt) (d : Nat) (Post : PV → Mem → Prop) : Prop :=
  p.tables.exec = Jvm.exec ∧ c.code = mt.2.1 ∧ c.maxLocals = mt.2.2.1 ∧ s.vm.findClass mt.1.cls = some m.cls ∧ (∀ w ∈ lw_g, w.before args s = true) ∧ va_K D vwCl (gTys cs) s ∧ (∀ M, va_D A (wld cs ad M)) ∧
  (d ≤ R.frames ∧ 40 * d ≤ R.locals ∧ cells ≤ R.cells ∧ slots ≤ R.slots) ∧ mtOk mt ∧
  (∀ (r : PV) (M : Mem) (pc : Nat) (H : Heap) (locs : List Loc) (ls : Array Slot), Post r M → rOk mt.2.2.2.1 r → va_P D vwCl (wld cs ad M) H → va_S A H0 H locs → decode mt.2.1 pc = .ok (match r with | none => .return_ | some _ => .ireturn, 1) →
    W p l e R s m args below meth c H locs cells slots Q (F0 m pc ls ((rp r []).map (cv ad))))
end GG
def gV (mt : Mt) (d : Nat) (Post : PV → Mem → Prop) (pc : Nat) (lv st : List PV) (M : Mem) : Prop :=
  ∀ (p : Program) (l : Launch) (e : Env) (R : Room) (s : State) (m : MethodId) (args : Array Value) (below : List Frame) (meth : Method) (c : Code) (cells slots : Nat) (Q : State → Prop) (D : va_G) (ad : Nat → Nat) (A : Nat → Prop) (H0 : Heap) (cs : Cs),
    gC p l e R s m args below meth c cells slots Q D ad A H0 cs mt d Post → ∀ (H : Heap) (locs : List Loc) (ls : Array Slot), va_P D vwCl (wld cs ad M) H → va_S A H0 H locs → gL ad ls mt.2.2.1 lv →
      W p l e R s m args below meth c H locs cells slots Q (F0 m pc ls (st.map (cv ad)))
def gW (cs : Cs) (D : va_G) (ad : Nat → Nat) (as : List PV) (M : Mem) (v : Array Value) (U : State) : Prop := v = (as.map (cv ad)).toArray ∧ va_P D vwCl (wld cs ad M) U.heap ∧ va_K D vwCl (gTys cs) U ∧ va_D (fun _ => True) (wld cs ad M)
def gF (ad : Nat → Nat) (q : Nat) : Prop := ∃ k, k < 74 ∧ q = ad k
def gQ (cs : Cs) (D : va_G) (ad : Nat → Nat) (Post : PV → Mem → Prop) (_ : Array Value) (st : State) (oc : Outcome) (t : State) : Prop := (∃ (r : PV) (M : Mem), oc = .returned (rv ad r) ∧ Post r M ∧ va_P D vwCl (wld cs ad M) t.heap) ∧ va_F (gF ad) st t
def gRoom (d : Nat) : Room := { frames := d, cells := 0, slots := 0, locals := 40 * d }
def gOk (mt : Mt) (d : Nat) (as : List PV) (M : Mem) (Post : PV → Mem → Prop) : Prop :=
  ∀ (l : Launch) (cs : Cs) (D : va_G) (ad : Nat → Nat), Met l mt.1 (Cond.code mt.1 mt.2.1 mt.2.2.1 mt.2.2.2.1 :: lw_g) (gRoom d) (gW cs D ad as M) (gQ cs D ad Post) 0 0 (gF ad)
theorem gV_mono {mt : Mt} {d : Nat} {P P' : PV → Mem → Prop} {pc : Nat} {lv st : List PV} {M : Mem} (h : gV mt d P pc lv st M) (hP : ∀ r M, P r M → P' r M) : gV mt d P' pc lv st M := by
  intro p l e R s m args below meth c cells slots Q D ad A H0 cs C
  obtain ⟨c1, c2, c3, c4, c5, c6, c7, c8, c9, c10⟩ := C
  exact h p l e R s m args below meth c cells slots Q D ad A H0 cs ⟨c1, c2, c3, c4, c5, c6, c7, c8, c9, fun r M pc H locs ls q => c10 r M pc H locs ls (hP r M q)⟩
