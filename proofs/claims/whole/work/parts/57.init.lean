/-! Constructors: a frame of a constructor over a growing list of cells. -/
theorem wd_obj : Cond.instanceMethod Lib.objectInit ∈ lw_g ∧ Cond.code Lib.objectInit ⟨#[0xb1]⟩ 1 none ∈ lw_g := ⟨lw_gm 57 (by decide +kernel) rfl, lw_gm 58 (by decide +kernel) rfl⟩
theorem wd_arr : Cond.arrayClass .int ∈ lw_g ∧ Cond.arrayClass .boolean ∈ lw_g := ⟨lw_gm 115 (by decide +kernel) rfl, lw_gm 116 (by decide +kernel) rfl⟩
abbrev Ix : Type := Program × Launch × Env × Room × State × MethodId × Array Value × List Frame × Method × Code × (State → Prop) × va_G × (Nat → Prop) × Heap × Cs
def nst (U : State) : Prop := (Cond.arrayOver (.array .int)).before #[] U = true ∧ va_Nw (.methodLinkNest RX6 9 yX3_init RX6) U ∧ va_Nw (.methodLinkNest RX6 25 yX1_init RX6) U ∧ va_Nw (.methodLinkNest RX6 32 yX2_init RX6) U
theorem nst_warm {s U : State} (hW : s.WarmedH U.vm) (h : nst s) : nst U := ⟨arrayOver_alikeB hW.alike h.1, va_Nw.warmM hW h.2.1, va_Nw.warmM hW h.2.2.1, va_Nw.warmM hW h.2.2.2⟩
theorem nst_call {a : Array Value} {U : State} {g : JFrame} {mk : MethodId} (h : nst U) : nst (U.calling g mk a) := ⟨arrayOver_alikeB (s := U) (U := U.calling g mk a) (Vm.Alike.refl U.vm) h.1, va_Nw.same (u := U) (U := U.calling g mk a) rfl rfl h.2.1, va_Nw.same (u := U) (U := U.calling g mk a) rfl rfl h.2.2.1, va_Nw.same (u := U) (U := U.calling g mk a) rfl rfl h.2.2.2⟩
def iC (X : Ix) (own : String) (cc : ByteArray) (d : Nat) : Prop := match X with
  | (p, _, _, R, s, m, args, _, _, c, _, D, A, H0, cs) => p.tables.exec = Jvm.exec ∧ c.code = cc ∧ s.vm.findClass own = some m.cls ∧ (∀ w ∈ lw_g, w.before args s = true) ∧ va_K D vwCl (gTys cs) s ∧ (∀ q, H0.size ≤ q → A q) ∧ nst s ∧ (d ≤ R.frames ∧ 40 * d ≤ R.locals)
def iN (X : Ix) : Prop := match X with
  | (_, _, _, _, _, _, _, _, meth, _, _, _, _, _, _) => meth.name = "<init>"
def iR (X : Ix) (cells slots : Nat) : Prop := match X with
  | (_, _, _, R, _, _, _, _, _, _, _, _, _, _, _) => cells ≤ R.cells ∧ slots ≤ R.slots
def iL (X : Ix) (ls : Array Slot) : Prop := match X with
  | (_, _, _, _, _, _, _, _, _, c, _, _, _, _, _) => ls.size = c.maxLocals
def iS (X : Ix) : Cs := match X with
  | (_, _, _, _, _, _, _, _, _, _, _, _, _, _, cs) => cs
def iW (X : Ix) (ls : Array Slot) (pc : Nat) (st : List Value) (ws : va_W) (cells slots : Nat) : Prop := match X with
  | (p, l, e, R, s, m, args, below, meth, c, Q, D, A, H0, _) => ∀ (H : Heap) (locs : List Loc), va_P D vwCl ws H → va_D A ws → va_S A H0 H locs → W p l e R s m args below meth c H locs cells slots Q (F0 m pc ls st)
/-- a number is pushed -/
def pushB (ins : Instr) (a : Nat) (v : Int) : Bool := match ins with
  | .iconst n => a == 1 && decide (n = v)
  | .bipush n => a == 2 && decide (n = v) && decide ((Int8.ofInt n).toInt32 = Int32.ofInt n)
  | .sipush n => a == 3 && decide (n = v) && decide ((Int16.ofInt n).toInt32 = Int32.ofInt n)
  | _ => false
section IW
variable {X : Ix} {own : String} {cc : ByteArray} {d : Nat} {ls : Array Slot} {pc : Nat} {st rest : List Value} {ws tl : va_W} {cells slots h0 ci : Nat} {fs : List Value}
theorem iW_aload_n {k : Fin 4} {x : Nat} (C : iC X own cc d) (hd : decode cc pc = .ok (.aload_n k, 1)) (hl : ls[(k : Nat)]? = some (.val (.ref x))) (kk : iW X ls (pc + 1) (.ref x :: st) ws cells slots) : iW X ls pc st ws cells slots := by
  obtain ⟨p, l, e, R, s, m, args, below, meth, c, Q, D, A, H0, cs⟩ := X
  intro H locs hP hD hS
  obtain ⟨c1, c2, c3, c4, c5, c6, c7, c8⟩ := C
  exact lv_aload_n c1 c2 hd rfl hl (kk H locs hP hD hS)
theorem iW_aload {k : Nat} {x : Nat} (C : iC X own cc d) (hd : decode cc pc = .ok (.aload k, 2)) (hl : ls[k]? = some (.val (.ref x))) (kk : iW X ls (pc + 2) (.ref x :: st) ws cells slots) : iW X ls pc st ws cells slots := by
  obtain ⟨p, l, e, R, s, m, args, below, meth, c, Q, D, A, H0, cs⟩ := X
  intro H locs hP hD hS
  obtain ⟨c1, c2, c3, c4, c5, c6, c7, c8⟩ := C
  exact lv_aload c1 c2 hd hl (kk H locs hP hD hS)
theorem iW_dup {x : Nat} (C : iC X own cc d) (hd : decode cc pc = .ok (.dup, 1)) (kk : iW X ls (pc + 1) (.ref x :: .ref x :: st) ws cells slots) : iW X ls pc (.ref x :: st) ws cells slots := by
  obtain ⟨p, l, e, R, s, m, args, below, meth, c, Q, D, A, H0, cs⟩ := X
  intro H locs hP hD hS
  obtain ⟨c1, c2, c3, c4, c5, c6, c7, c8⟩ := C
  exact lv_dup c1 c2 hd rfl (kk H locs hP hD hS)
theorem iW_push {ins : Instr} {a : Nat} {v : Int} (C : iC X own cc d) (hd : decode cc pc = .ok (ins, a)) (hp : pushB ins a v = true) (kk : iW X ls (pc + a) (.int (Int32.ofInt v) :: st) ws cells slots) : iW X ls pc st ws cells slots := by
  obtain ⟨p, l, e, R, s, m, args, below, meth, c, Q, D, A, H0, cs⟩ := X
  intro H locs hP hD hS
  obtain ⟨c1, c2, c3, c4, c5, c6, c7, c8⟩ := C
  have k1 := kk H locs hP hD hS
  unfold pushB at hp
  cases ins <;> first | cases hp | skip
  case iconst n =>
    simp only [Bool.and_eq_true, beq_iff_eq, decide_eq_true_eq] at hp
    obtain ⟨rfl, rfl⟩ := hp
    exact lv_iconst c1 c2 hd rfl k1
  case bipush n =>
    simp only [Bool.and_eq_true, beq_iff_eq, decide_eq_true_eq] at hp
    obtain ⟨⟨rfl, rfl⟩, h⟩ := hp
    exact lv_bipush c1 c2 hd h k1
  case sipush n =>
    simp only [Bool.and_eq_true, beq_iff_eq, decide_eq_true_eq] at hp
    obtain ⟨⟨rfl, rfl⟩, h⟩ := hp
    exact lv_sipush c1 c2 hd h k1
theorem iW_obj {ix : Nat} (C : iC X own cc (d + 1)) (hL : iL X ls) (hlink : Cond.methodLink own ix Lib.objectInit ∈ lw_g) (hd : decode cc pc = .ok (.invokespecial ix, 3)) (kk : iW X ls (pc + 3) [] ws cells slots) : iW X ls pc [.ref h0] ws cells slots := by
  obtain ⟨p, l, e, R, s, m, args, below, meth, c, Q, D, A, H0, cs⟩ := X
  intro H locs hP hD hS
  obtain ⟨c1, c2, c3, c4, c5, c6, c7, c8⟩ := C
  have hR : 1 ≤ R.frames := by omega
  have hLo : 12 ≤ R.locals := by omega
  exact W.objInit c1 c2 c3 (c4 _ hlink) (c4 _ wd_obj.1) (c4 _ wd_obj.2) rfl hL rfl hd hR hLo (kk H locs hP hD hS)
theorem iW_put {T : u_T} {N k ix : Nat} {ty : FieldType} {v : Value} (C : iC X own cc d) (hN : iN X) (hci : vwCl[ci]? = some (own, T, N)) (hk : k < N) (hlink : Cond.fieldLink own ix (T k).1 (T k).2.1 (T k).2.2.1 ∈ lw_g) (hdecl : (T k).1 = own) (hty : parseFieldDescriptor (T k).2.2.1 = some ty) (hn : narrow ty v = v) (hfit : fits ty v = true) (hl : k < fs.length) (hd : decode cc pc = .ok (.putfield ix, 3))
    (kk : iW X ls (pc + 3) rest ((h0, .inr (ci, fs.set k v)) :: tl) cells slots) : iW X ls pc (v :: .ref h0 :: rest) ((h0, .inr (ci, fs)) :: tl) cells slots := by
  obtain ⟨p, l, e, R, s, m, args, below, meth, c, Q, D, A, H0, cs⟩ := X
  intro H locs hP hD hS
  obtain ⟨c1, c2, c3, c4, c5, c6, c7, c8⟩ := C
  obtain ⟨hw, ty0, ht0, hnm⟩ := clOk ci own T N hci
  by_cases hf : (T k).2.2.2 = true
  · exact va_putF c1 c2 c4 hw ty0 ht0 hnm c3 c5 hP hD hS 0 rfl hci k hk (c4 _ hlink) (fun _ h => h) hf hN hdecl hty hn hfit hl hd (fun H1 locs1 hP1 hD1 hS1 => kk H1 locs1 hP1 hD1 hS1)
  · exact va_put c1 c2 c4 hw ty0 ht0 hnm c3 c5 hP hD hS 0 rfl hci k hk (c4 _ hlink) (fun _ h => h) (by simpa using hf) hty hn hfit hl hd (fun H1 locs1 hP1 hD1 hS1 => kk H1 locs1 hP1 hD1 hS1)
theorem iW_get {T : u_T} {N k ix : Nat} {v : Value} (C : iC X own cc d) (hci : vwCl[ci]? = some (own, T, N)) (hk : k < N) (hlink : Cond.fieldLink own ix (T k).1 (T k).2.1 (T k).2.2.1 ∈ lw_g) (hv : fs[k]? = some v) (he : ws[0]? = some (h0, .inr (ci, fs))) (hd : decode cc pc = .ok (.getfield ix, 3))
    (kk : iW X ls (pc + 3) (v :: rest) ws cells slots) : iW X ls pc (.ref h0 :: rest) ws cells slots := by
  obtain ⟨p, l, e, R, s, m, args, below, meth, c, Q, D, A, H0, cs⟩ := X
  intro H locs hP hD hS
  obtain ⟨c1, c2, c3, c4, c5, c6, c7, c8⟩ := C
  obtain ⟨hw, ty0, ht0, hnm⟩ := clOk ci own T N hci
  exact va_get c1 c2 c4 hw c3 c5 hP 0 he hci k hk (c4 _ hlink) (fun _ h => h) hv hd (kk H locs hP hD hS)
end IW
def atB (b : Bool) : ArrayType := match b with
  | false => .int
  | true => .boolean
def ctB (cs : Cs) (b : Bool) : ClassId := match b with
  | false => cs.1
  | true => cs.2.1
def aZ (cs : Cs) (b : Bool) (n : Nat) : va_E := .inl (ctB cs b, n, .inl (fun _ => Int32.ofInt 0))
section IW2
variable {X : Ix} {own : String} {cc : ByteArray} {d : Nat} {ls : Array Slot} {pc : Nat} {st rest : List Value} {ws tl : va_W} {cells slots h0 ci : Nat} {fs : List Value}
theorem z32 : Int32.ofInt 0 = 0 := by decide
theorem iW_newa {b : Bool} {n : Nat} (C : iC X own cc d) (hn : n ≤ 400) (hR : iR X (cells + 1) (slots + n)) (hd : decode cc pc = .ok (.newarray (atB b), 2)) (kk : ∀ q : Nat, iW X ls (pc + 2) (.ref q :: rest) (ws ++ [(q, aZ (iS X) b n)]) (cells + 1) (slots + n)) : iW X ls pc (.int (Int32.ofInt (n : Int)) :: rest) ws cells slots := by
  obtain ⟨p, l, e, R, s, m, args, below, meth, c, Q, D, A, H0, cs⟩ := X
  intro H locs hP hD hS
  obtain ⟨c1, c2, c3, c4, c5, c6, c7, c8⟩ := C
  have hr := rng_0
  have hnn : (Int32.ofInt (n : Int)).toNatClampNeg = n := by rw [i32_clamp (by omega) (by omega)]; omega
  have hn0 : ¬ Int32.ofInt (n : Int) < 0 := by
    rw [← z32, i32_lt ⟨by omega, by omega⟩ rng_0]
    omega
  cases b with
  | false =>
    refine va_newa (atype := .int) (ty := .int) (a0 := (n, .inl (fun _ => Int32.ofInt 0))) c1 c2 (c4 _ wd_arr.1) rfl c5 hP hD hS c6 (fun cA => by rw [vp_cell_i, z32]; rfl) hn0 hnn (by show n * 4 ≤ _; omega) hR.1 hR.2 hd (fun q cA H1 hK1 hP1 hD1 hS1 => ?_)
    have e1 : s.vm.findClass ("[" ++ FieldType.int.toString) = some cA := (hK1.2 3 (cA, .int) rfl).2
    have e2 : s.vm.findClass ("[" ++ FieldType.int.toString) = some cs.1 := (c5.2 0 (cs.1, .int) rfl).2
    have e3 : cA = cs.1 := Option.some.inj (e1.symm.trans e2)
    subst e3
    exact kk q H1 locs hP1 hD1 hS1
  | true =>
    refine va_newa (atype := .boolean) (ty := .boolean) (a0 := (n, .inl (fun _ => Int32.ofInt 0))) c1 c2 (c4 _ wd_arr.2) rfl c5 hP hD hS c6 (fun cA => by rw [vp_cell_i, z32]; rfl) hn0 hnn (by show n * 1 ≤ _; omega) hR.1 hR.2 hd (fun q cA H1 hK1 hP1 hD1 hS1 => ?_)
    have e1 : s.vm.findClass ("[" ++ FieldType.boolean.toString) = some cA := (hK1.2 3 (cA, .boolean) rfl).2
    have e2 : s.vm.findClass ("[" ++ FieldType.boolean.toString) = some cs.2.1 := (c5.2 1 (cs.2.1, .boolean) rfl).2
    have e3 : cA = cs.2.1 := Option.some.inj (e1.symm.trans e2)
    subst e3
    exact kk q H1 locs hP1 hD1 hS1
end IW2
/-- a field that gets a new array: pc, the push's length and instruction, the kind, the field's entry and place, the array's length -/
abbrev Spe : Type := Nat × Nat × Instr × Bool × Nat × Nat × Nat
def speOk (own : String) (cc : ByteArray) (T : u_T) (N : Nat) (e : Spe) : Prop := decode cc e.1 = .ok (.aload_n 0, 1) ∧ decode cc (e.1 + 1) = .ok (e.2.2.1, e.2.1) ∧ pushB e.2.2.1 e.2.1 (e.2.2.2.2.2.2 : Int) = true ∧ decode cc (e.1 + 1 + e.2.1) = .ok (.newarray (atB e.2.2.2.1), 2) ∧ decode cc (e.1 + 1 + e.2.1 + 2) = .ok (.putfield e.2.2.2.2.1, 3) ∧
  e.2.2.2.2.2.1 < N ∧ Cond.fieldLink own e.2.2.2.2.1 (T e.2.2.2.2.2.1).1 (T e.2.2.2.2.2.1).2.1 (T e.2.2.2.2.2.1).2.2.1 ∈ lw_g ∧ (T e.2.2.2.2.2.1).1 = own ∧ parseFieldDescriptor (T e.2.2.2.2.2.1).2.2.1 = some (.array (newarray.typeOf (atB e.2.2.2.1))) ∧ e.2.2.2.2.2.2 ≤ 400
def spsOk (own : String) (cc : ByteArray) (T : u_T) (N : Nat) : Nat → List Spe → Nat → Prop
  | pc, [], pe => pc = pe
  | pc, e :: sp, pe => pc = e.1 ∧ speOk own cc T N e ∧ spsOk own cc T N (e.1 + 6 + e.2.1) sp pe
def ncons (q : Nat) (u : Nat → Nat) : Nat → Nat
  | 0 => q
  | n + 1 => u n
def fSet : List Value → List Spe → (Nat → Nat) → List Value
  | fs, [], _ => fs
  | fs, e :: sp, u => fSet (fs.set e.2.2.2.2.2.1 (.ref (u 0))) sp (fun j => u (j + 1))
def aLst (cs : Cs) : List Spe → (Nat → Nat) → va_W
  | [], _ => []
  | e :: sp, u => (u 0, aZ cs e.2.2.2.1 e.2.2.2.2.2.2) :: aLst cs sp (fun j => u (j + 1))
def tot : List Spe → Nat
  | [] => 0
  | e :: sp => e.2.2.2.2.2.2 + tot sp
theorem iW_arrs {X : Ix} {own : String} {cc : ByteArray} {d : Nat} {ls : Array Slot} {h0 ci : Nat} {T : u_T} {N pe : Nat} (C : iC X own cc d) (hN : iN X) (hci : vwCl[ci]? = some (own, T, N)) (hl : ls[0]? = some (.val (.ref h0))) : ∀ (sp : List Spe) (pc : Nat) (fs : List Value) (tl : va_W) (cells slots : Nat), spsOk own cc T N pc sp pe → fs.length = N → iR X (cells + sp.length) (slots + tot sp) →
    (∀ u : Nat → Nat, iW X ls pe [] ((h0, .inr (ci, fSet fs sp u)) :: (tl ++ aLst (iS X) sp u)) (cells + sp.length) (slots + tot sp)) → iW X ls pc [] ((h0, .inr (ci, fs)) :: tl) cells slots
  | [], pc, fs, tl, cells, slots, ho, hfs, hR, kk => by
    have e : pc = pe := ho
    subst e
    have := kk (fun _ => 0)
    simpa [fSet, aLst, tot] using this
  | e :: sp, pc, fs, tl, cells, slots, ho, hfs, hR, kk => by
    obtain ⟨h1, ⟨o1, o2, o3, o4, o5, o6, o7, o8, o9, o10⟩, h3⟩ := ho
    subst h1
    have hR1 : iR X (cells + 1) (slots + e.2.2.2.2.2.2) := by
      obtain ⟨p, l, ev, R, s, m, args, below, meth, c, Q, D, A, H0, cs⟩ := X
      obtain ⟨r1, r2⟩ := hR
      simp only [List.length_cons, tot] at r1 r2
      exact ⟨by omega, by omega⟩
    refine iW_aload_n (k := 0) C o1 hl (iW_push C o2 o3 (iW_newa C o10 hR1 o4 (fun q => ?_)))
    refine iW_put (k := e.2.2.2.2.2.1) (ty := .array (newarray.typeOf (atB e.2.2.2.1))) C hN hci o6 o7 o8 o9 rfl rfl (by rw [hfs]; exact o6) o5 ?_
    have e6 : e.1 + 1 + e.2.1 + 2 + 3 = e.1 + 6 + e.2.1 := by omega
    rw [e6]
    refine iW_arrs C hN hci hl sp _ (fs.set e.2.2.2.2.2.1 (.ref q)) (tl ++ [(q, aZ (iS X) e.2.2.2.1 e.2.2.2.2.2.2)]) (cells + 1) (slots + e.2.2.2.2.2.2) h3 (by rw [List.length_set]; exact hfs) ?_ (fun u => ?_)
    · obtain ⟨p, l, ev, R, s, m, args, below, meth, c, Q, D, A, H0, cs⟩ := X
      obtain ⟨r1, r2⟩ := hR
      simp only [List.length_cons, tot] at r1 r2
      exact ⟨by omega, by omega⟩
    · have k1 := kk (ncons q u)
      have e1 : cells + (e :: sp).length = cells + 1 + sp.length := by simp only [List.length_cons]; omega
      have e2 : slots + tot (e :: sp) = slots + e.2.2.2.2.2.2 + tot sp := by simp only [tot]; omega
      rw [e1, e2] at k1
      have e3 : tl ++ aLst (iS X) (e :: sp) (ncons q u) = (tl ++ [(q, aZ (iS X) e.2.2.2.1 e.2.2.2.2.2.2)]) ++ aLst (iS X) sp u := by
        rw [List.append_assoc]
        rfl
      rw [e3] at k1
      exact k1
