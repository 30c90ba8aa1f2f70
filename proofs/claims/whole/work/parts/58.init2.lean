/-! Constructors: new objects, calls of constructors, arrays of arrays, the loop, and from a frame to a contract. -/
theorem va_D_new {A : Nat → Prop} {D : va_G} {ws nw : va_W} {H : Heap} (hP : va_P D vwCl ws H) (hD : va_D A ws) (hA : ∀ q, H.size ≤ q → A q) (hn : ∀ (k : Nat) (q : Nat × va_E), nw[k]? = some q → q.1 = H.size + k) : va_D A (ws ++ nw) := by
  refine va_D.app hD ⟨fun i j x y hi hj hxy => ?_, fun k q hk => ?_⟩ (fun i j x y hx hy hxy => ?_)
  · have h1 := hn i x hi
    have h2 := hn j y hj
    omega
  · exact hA _ (by rw [hn k q hk]; omega)
  · have h1 := (hP i x hx).lt
    have h2 := hn j y hy
    omega
theorem va_jn {A0 : Nat → Prop} {D : va_G} {ws wc w1 : va_W} {H H1 : Heap} (hP : va_P D vwCl (ws ++ wc) H) (hD : va_D A0 (ws ++ wc)) (hk : ∀ q : Nat, q < H.size → ¬ va_A wc H.size q → H1[q]? = H[q]?) (hF : ∀ q, va_A wc H.size q → A0 q) (hP1 : va_P D vwCl w1 H1) (hD1 : va_D (va_A wc H.size) w1) : va_P D vwCl (ws ++ w1) H1 ∧ va_D A0 (ws ++ w1) := by
  have gl : ∀ (k : Nat) (q : Nat × va_E), ws[k]? = some q → (ws ++ wc)[k]? = some q := fun k q hq => by
    rw [List.getElem?_append_left (List.getElem?_eq_some_iff.mp hq).1]
    exact hq
  have apart : ∀ (k : Nat) (q : Nat × va_E), ws[k]? = some q → q.1 < H.size ∧ ¬ va_A wc H.size q.1 := by
    intro k q hq
    have h2 := gl k q hq
    have hl := (hP k q h2).lt
    refine ⟨hl, fun h => ?_⟩
    rcases h with ⟨k2, e, h⟩ | h
    · have h4 : (ws ++ wc)[ws.length + k2]? = some (q.1, e) := by
        rw [List.getElem?_append_right (by omega), Nat.add_sub_cancel_left]
        exact h
      have h5 := hD.1 k (ws.length + k2) q (q.1, e) h2 h4 rfl
      have h6 := (List.getElem?_eq_some_iff.mp hq).1
      omega
    · omega
  have hDw : va_D A0 ws := ⟨fun i j x y hi hj => hD.1 i j x y (gl i x hi) (gl j y hj), fun k q hq => hD.2 k q (gl k q hq)⟩
  exact ⟨va_P.app (fun k q hq => (hP k q (gl k q hq)).kept (hk q.1 (apart k q hq).1 (apart k q hq).2)) hP1, va_D.app hDw (hD1.weaken (fun k q _ h => hF q.1 h)) (fun i j x y hx hy hxy => (apart i x hx).2 (by rw [hxy]; exact hD1.2 j y hy))⟩
theorem arrV_ext {c : ClassId} {N : Nat} {f g : Nat → Value} (h : ∀ j, j < N → f j = g j) : arrV c N f = arrV c N g := by
  have e : (fun j : Fin N => f j.val) = (fun j : Fin N => g j.val) := funext (fun j => h j.val j.isLt)
  unfold arrV
  rw [e]
/-- the rows of an int[4][400]: the outer array's cell, and the four rows behind it -/
def rowsW (cs : Cs) (u : Nat → Nat) : va_W := [(u 0, .inl (cs.2.2, 4, .inr (.inr (.inr (.inr (fun j => some (u (j + 1)))))))), (u 1, aZ cs false 400), (u 2, aZ cs false 400), (u 3, aZ cs false 400), (u 4, aZ cs false 400)]
theorem outer4 (c : ClassId) (h0 : Nat) : Jvm.Free.Multi.outerC c 4 h0 4 = vp_cell c (4, .inr (.inr (.inr (.inr (fun j => some (h0 + (j + 1))))))) := by
  rw [vp_cell_q]
  show ((((({ cls := c, slots := Array.replicate 4 .null, vm := .none } : Cell).setSlot 0 (.ref (h0 + 1 + 0))).setSlot 1 (.ref (h0 + 1 + 1))).setSlot 2 (.ref (h0 + 1 + 2))).setSlot 3 (.ref (h0 + 1 + 3))) = _
  rw [arrV_new, arrV_store, arrV_store, arrV_store, arrV_store]
  refine arrV_ext (fun j hj => ?_)
  have h4 : j = 0 ∨ j = 1 ∨ j = 2 ∨ j = 3 := by omega
  rcases h4 with rfl | rfl | rfl | rfl <;> simp [updV, va_rf] <;> omega
section IW3
variable {X : Ix} {own : String} {cc : ByteArray} {d : Nat} {ls : Array Slot} {pc : Nat} {st rest : List Value} {ws tl : va_W} {cells slots h0 ci : Nat} {fs : List Value}
set_option maxHeartbeats 1000000 in
theorem iW_mna {ix : Nat} (C : iC X own cc d) (hlink : Cond.classLink own ix ("[" ++ (FieldType.array FieldType.int).toString) ∈ lw_g) (hd : decode cc pc = .ok (.multianewarray ix 2, 4)) (hR : iR X (cells + 5) (slots + 1604)) (kk : ∀ u : Nat → Nat, iW X ls (pc + 4) (.ref (u 0) :: rest) (ws ++ rowsW (iS X) u) (cells + 5) (slots + 1604)) : iW X ls pc (.int (Int32.ofInt 400) :: .int (Int32.ofInt 4) :: rest) ws cells slots := by
  obtain ⟨p, l, e, R, s, m, args, below, meth, c, Q, D, A, H0, cs⟩ := X
  intro H locs hP hD hS T hT Xs
  obtain ⟨c1, c2, c3, c4, c5, c6, c7, c8⟩ := C
  have e4 : (Int32.ofInt 4).toNatClampNeg = 4 := by decide
  have e400 : (Int32.ofInt 400).toNatClampNeg = 400 := by decide
  obtain ⟨r1, r2⟩ := hR
  obtain ⟨vm₁, cA, comp, -, fA, fC, -, -, X', step⟩ := Xs.multianewarray2F c1 c3 (c4 _ hlink) c7.1 (c4 _ wd_arr.1) (g := F0 m pc ls (.int (Int32.ofInt 400) :: .int (Int32.ofInt 4) :: rest)) rfl (by rw [c2]; exact hd) rfl (by decide) (by decide) (by rw [e4]; decide) (by rw [e400]; decide) (by rw [e400]; decide) rfl rfl (by rw [e4]; omega) (by rw [e4, e400]; omega)
  have a1 : s.vm.findClass ("[" ++ (FieldType.array FieldType.int).toString) = some cs.2.2 := (c5.2 2 (cs.2.2, .array .int) rfl).2
  have a2 : s.vm.findClass ("[" ++ FieldType.int.toString) = some cs.1 := (c5.2 0 (cs.1, .int) rfl).2
  have a3 : cA = cs.2.2 := Option.some.inj (fA.symm.trans a1)
  have fC2 : s.vm.findClass ("[" ++ FieldType.int.toString) = some comp := fC
  have a4 : comp = cs.1 := Option.some.inj (fC2.symm.trans a2)
  subst a3
  subst a4
  rw [e4, e400] at X' step
  have hTh : (T.setVm vm₁).heap = H := hT
  obtain ⟨f1, f2, -, -⟩ := Jvm.Free.Multi.fill_facts (T.setVm vm₁) cs.2.2 cs.1 4 400 (defaultValue .int) 4
  have hold := fun (x : Nat) (hx : x < H.size) => Jvm.Free.Multi.fill_old (T.setVm vm₁) cs.2.2 cs.1 4 400 (defaultValue .int) (a := x) (by rw [hTh]; exact hx) 4
  have hrow := fun (j : Nat) (hj : j < 4) => Jvm.Free.Multi.fill_inner (T.setVm vm₁) cs.2.2 cs.1 4 400 (defaultValue .int) 4 j hj
  generalize Jvm.Free.Multi.fill (T.setVm vm₁) cs.2.2 cs.1 4 400 (defaultValue .int) 4 = F at X' step f1 f2 hold hrow
  rw [hTh] at f1 f2 hold hrow
  rw [outer4] at f2
  have hin : Jvm.Free.Multi.innerC cs.1 400 (defaultValue .int) = vp_cell cs.1 (400, .inl (fun _ => Int32.ofInt 0)) := by
    rw [vp_cell_i, z32]
    exact arrV_new cs.1 400 (.int 0)
  rw [hin] at hrow
  have hPn : va_P D vwCl (rowsW cs (fun k => H.size + k)) F.heap := by
    intro k q hq
    match k, hq with
    | 0, hq => cases hq; exact f2
    | 1, hq => cases hq; exact hrow 0 (by decide)
    | 2, hq => cases hq; exact hrow 1 (by decide)
    | 3, hq => cases hq; exact hrow 2 (by decide)
    | 4, hq => cases hq; exact hrow 3 (by decide)
    | n + 5, hq => cases hq
  have hDn : va_D A (ws ++ rowsW cs (fun k => H.size + k)) := va_D_new hP hD (fun q hq => c6 q (Nat.le_trans hS.1 hq)) (fun k q hq => by
    match k, hq with
    | 0, hq => cases hq; rfl
    | 1, hq => cases hq; rfl
    | 2, hq => cases hq; rfl
    | 3, hq => cases hq; rfl
    | 4, hq => cases hq; rfl
    | n + 5, hq => cases hq)
  have hSn : va_S A H0 F.heap locs := ⟨Nat.le_trans hS.1 (by rw [f1]; omega), fun x h1 h2 => (hold x (Nat.lt_of_lt_of_le h1 hS.1)).trans (hS.2.1 x h1 h2), hS.2.2⟩
  have X2 : Stand p l e R s m args below meth c F locs (cells + 5) (slots + 1604) := by
    have q1 : cells + 1 + 4 = cells + 5 := by omega
    have q2 : slots + 4 + 4 * 400 = slots + 1604 := by omega
    rw [q1, q2] at X'
    exact X'
  obtain ⟨t, b1, b2⟩ := kk (fun k => H.size + k) F.heap locs (va_P.app (hP.kept (fun k x hx => hold x.1 ((hP k x hx).lt))) hPn) hDn hSn F rfl X2
  refine ⟨t, step t ?_, b2⟩
  rw [hT]
  exact b1
theorem iW_new {C' : String} {T : u_T} {N ix cn : Nat} {ty : Nat → FieldType} {fz : List Value} (C : iC X own cc d) (hci : vwCl[cn]? = some (C', T, N)) (hty : ∀ k, k < N → parseFieldDescriptor (T k).2.2.1 = some (ty k)) (hfs : ∀ j, j < N → defaultValue (ty j) = vp_V fz j) (hw : Cond.classLink own ix C' ∈ lw_g ∧ Cond.instantiable C' N ∈ lw_g ∧ Cond.initialized C' ∈ lw_g) (hR : iR X (cells + 1) (slots + N)) (hd : decode cc pc = .ok (.new ix, 3))
    (kk : ∀ q : Nat, iW X ls (pc + 3) (.ref q :: rest) (ws ++ [(q, .inr (cn, fz))]) (cells + 1) (slots + N)) : iW X ls pc rest ws cells slots := by
  obtain ⟨p, l, e, R, s, m, args, below, meth, c, Q, D, A, H0, cs⟩ := X
  intro H locs hP hD hS
  obtain ⟨c1, c2, c3, c4, c5, c6, c7, c8⟩ := C
  exact va_new c1 c2 c4 (clOk cn C' T N hci).1 ty hty c3 (c4 _ hw.1) (c4 _ hw.2.1) (c4 _ hw.2.2) c5 hP hD hS c6 hci hfs hR.1 hR.2 hd (fun q H1 hP1 hD1 hS1 => kk q H1 locs hP1 hD1 hS1)
end IW3
def iRoom (d mc ms : Nat) : Room := { frames := d, cells := mc, slots := ms, locals := 40 * d }
def iPc (D : va_G) (cs : Cs) (ci : Nat) (fz : List Value) (h0 sz : Nat) (as : List Value) : Array Value → State → Prop := va_Pc (.ref h0 :: as) (fun U => U.heap.size = sz ∧ va_P D vwCl [(h0, .inr (ci, fz))] U.heap ∧ va_K D vwCl (gTys cs) U ∧ nst U)
def iQ (D : va_G) (ci : Nat) (fz : List Value) (h0 sz : Nat) (Sh : va_W → Prop) : Array Value → State → Outcome → State → Prop := va_Qv (S := va_W) Sh (fun w t => va_P D vwCl w t.heap ∧ va_D (va_A [(h0, .inr (ci, fz))] sz) w) (va_A [(h0, .inr (ci, fz))] sz)
/-- a constructor's contract: name, code, locals, its class's number, the fresh fields; how deep it calls, how many cells and slots it makes; its arguments; the cells when it has returned -/
def iMet (y : MethodName) (cc : ByteArray) (nL ci : Nat) (fz : List Value) (d mc ms : Nat) (as : List Value) (Sh : Cs → Nat → va_W → Prop) : Prop :=
  ∀ (l : Launch) (cs : Cs) (D : va_G) (h0 sz : Nat), Met l y (Cond.code y cc nL none :: lw_g) (iRoom d mc ms) (iPc D cs ci fz h0 sz as) (iQ D ci fz h0 sz (Sh cs h0)) mc ms (va_A [(h0, .inr (ci, fz))] sz)
theorem iPc_blind {D : va_G} {cs : Cs} {ci : Nat} {fz : List Value} {h0 sz : Nat} {as : List Value} : FrameBlind (iPc D cs ci fz h0 sz as) := fun a U g mk q => by
  obtain ⟨q0, q1, qP, qK, qN⟩ := q
  exact ⟨q0, q1, qP, va_K.moved (u := U) (U := U.calling g mk a) (Vm.Alike.refl U.vm) qK, nst_call qN⟩
set_option maxHeartbeats 1000000 in
theorem iMet_of {y : MethodName} {cc : ByteArray} {nL ci : Nat} {fz : List Value} {d mc ms : Nat} {as : List Value} {Sh : Cs → Nat → va_W → Prop} (hy : plainName y.cls = true) (hnm : y.name = "<init>") (hlen : (lg_sl (.ref 0 :: as)).length ≤ nL)
    (body : ∀ (X : Ix) (ls : Array Slot) (h0 : Nat), iC X y.cls cc d → iN X → iL X ls → lv_has ls nL (lv_args 0 (.ref h0 :: as)) → iR X mc ms → (∀ (w : va_W) (pc : Nat) (ls' : Array Slot), Sh (iS X) h0 w → decode cc pc = .ok (.return_, 1) → iW X ls' pc [] w mc ms) → iW X ls 0 [] [(h0, .inr (ci, fz))] 0 0) : iMet y cc nL ci fz d mc ms as Sh := by
  intro l cs D h0 sz
  refine Met.ofW (cc := cc) (maxL := nL) (ret := none) hy rfl ?_
  intro p e s m args below meth c s₁ B hml hv
  obtain ⟨rfl, hsz, hP, hK, hn⟩ := hv
  have hx := B.exec
  have hb := B.bytes
  have hr := B.returns
  have hts := atoms_spec (ws := Cond.code y cc nL none :: lw_g) B.pre
  have hown : s.vm.findClass y.cls = some m.cls := findClass_of_methodNamed B.named
  have hlocks := B.notSynchronized
  have hin : meth.name = "<init>" := (name_of_methodNamed B.named B.method).1.trans hnm
  subst hsz
  have hD : va_D (va_A [(h0, .inr (ci, fz))] s.heap.size) [(h0, .inr (ci, fz))] := by
    refine ⟨fun i j x y hi hj _ => ?_, fun k q hk => va_A.in hk⟩
    have h1 := (List.getElem?_eq_some_iff.mp hi).1
    have h2 := (List.getElem?_eq_some_iff.mp hj).1
    simp only [List.length_cons, List.length_nil] at h1 h2
    omega
  have hl := lv_entry (Value.ref h0 :: as) (n := nL) hlen
  rw [lg_entry_eq]
  generalize (lg_sl (Value.ref h0 :: as) ++ List.replicate (nL - (lg_sl (Value.ref h0 :: as)).length) Slot.unset).toArray = ls at hl ⊢
  refine body (p, l, e, iRoom d mc ms, s, m, (Value.ref h0 :: as).toArray, below, meth, c, MQ below (iQ D ci fz h0 s.heap.size (Sh cs h0)) (Value.ref h0 :: as).toArray s mc ms (va_A [(h0, .inr (ci, fz))] s.heap.size), D, va_A [(h0, .inr (ci, fz))] s.heap.size, s.heap, cs) ls h0 ⟨hx, hb, hown, fun w hw => hts w (List.mem_cons_of_mem _ hw), hK, fun q hq => Or.inr hq, hn, Nat.le_refl _, Nat.le_refl _⟩ hin (hl.1.trans hml.symm) hl ⟨Nat.le_refl _, Nat.le_refl _⟩ (fun w pc ls' hw hdg H locs hP' hD' hS' => ?_) s.heap [] hP hD va_S.rf
  exact W.vret hx hb hr (fun t ht hW => ⟨⟨w, rfl, hw, by rw [ht]; exact hP', hD'⟩, hS'.F ht⟩) hS'.2.2 hdg
section IW4
variable {X : Ix} {own : String} {cc : ByteArray} {d : Nat} {ls : Array Slot} {pc : Nat} {st rest : List Value} {ws tl : va_W} {cells slots h0 ci : Nat} {fs : List Value}
set_option maxHeartbeats 1000000 in
theorem iW_call {y : MethodName} {bc : ByteArray} {nL ix mc ms n q : Nat} {fz as : List Value} {Sh : Cs → Nat → va_W → Prop} (C : iC X own cc (d + 1)) (hL : iL X ls) (hM : iMet y bc nL ci fz d mc ms as Sh) (hnl : nL ≤ 21) (hcd : Cond.code y bc nL none ∈ lw_g) (hini : Cond.initialized y.cls ∈ lw_g) (hins : Cond.instanceMethod y ∈ lw_g) (hnm : y.name = "<init>") (hdsc : y.cls ≠ "java/lang/invoke/MethodHandle" ∧ y.cls ≠ "java/lang/invoke/VarHandle" ∧ (parseMethodDescriptor y.desc).map (fun d => d.parameters.length) = some n) (has : as.length = n)
    (hlink : Cond.methodLink own ix y ∈ lw_g ∨ ∀ U, nst U → va_Nw (.methodLinkNest own ix y RX6) U) (hrs : (rest.map fun v => v.category).sum ≤ 8) (hR : iR X (cells + mc) (slots + ms)) (hst : st = as.reverse ++ .ref q :: rest) (hd : decode cc pc = .ok (.invokespecial ix, 3))
    (kk : ∀ w : va_W, Sh (iS X) q w → iW X ls (pc + 3) rest (ws ++ w) (cells + mc) (slots + ms)) : iW X ls pc st (ws ++ [(q, .inr (ci, fz))]) cells slots := by
  obtain ⟨p, l, e, R, s, m, args, below, meth, c, Q, D, A, H0, cs⟩ := X
  intro H locs hP hD hS
  obtain ⟨c1, c2, c3, c4, c5, c6, c7, c8⟩ := C
  have hG : GoodIn lw_g (Cond.code y bc nL none :: lw_g) := by
    intro w hw
    have hw2 : w ∈ lw_g := by
      rcases List.mem_cons.mp hw with rfl | hw
      · exact hcd
      · exact hw
    exact ⟨hw2, tbl_good hw2⟩
  have hRR : (iRoom d mc ms).frames + 1 ≤ R.frames ∧ 8 + (nL + 11) + (iRoom d mc ms).locals ≤ R.locals := ⟨c8.1, by show 8 + (nL + 11) + 40 * d ≤ R.locals; have := c8.2; omega⟩
  have hF : ∀ x, va_A [(q, .inr (ci, fz))] H.size x → A x := by
    intro x h
    rcases h with ⟨k, ee, h⟩ | h
    · have h4 : (ws ++ [(q, .inr (ci, fz))])[ws.length + k]? = some (x, ee) := by
        rw [List.getElem?_append_right (by omega), Nat.add_sub_cancel_left]
        exact h
      exact hD.2 _ _ h4
    · exact c6 x (Nat.le_trans hS.1 h)
  have hPq : va_P D vwCl [(q, .inr (ci, fz))] H := by
    intro k x hk
    refine hP (ws.length + k) x ?_
    rw [List.getElem?_append_right (by omega), Nat.add_sub_cancel_left]
    exact hk
  have hpre : PreS s H (iPc D cs ci fz q H.size as) (.ref q :: as) := ⟨iPc_blind, fun U hU hW => ⟨rfl, by rw [hU], by rw [hU]; exact hPq, va_K.moved hW.alike c5, nst_warm hW c7⟩⟩
  have hrun : va_Run p l e R s m args below meth c H locs cells slots mc ms (F0 m pc ls st) rest (iQ D ci fz q H.size (Sh cs q) (Value.ref q :: as).toArray) (va_A [(q, .inr (ci, fz))] H.size) := by
    rcases hlink with hl | hl
    · exact va_runI (As := as) (rest := rest) (Ts := lw_g) (nL := c.maxLocals) ⟨c1, c2, rfl, c3, c4⟩ (hM l cs D q H.size) (cwI n c4 hG rfl rfl rfl (c4 _ hini) (c4 _ hl) (c4 _ hins) hnm hdsc hRR) hpre rfl has hL hst (lv_room hrs) hd ⟨hR.1, hR.2⟩
    · exact va_runIN (As := as) (rest := rest) (Ts := lw_g) (nL := c.maxLocals) ⟨c1, c2, rfl, c3, c4⟩ (hM l cs D q H.size) ⟨va_cnB n c4 hG rfl rfl rfl (hl s c7) (c4 _ hini) hdsc hRR, hnm, c4 _ hins⟩ hpre rfl has hL hst (lv_room hrs) hd ⟨hR.1, hR.2⟩
  refine va_callv hrun hS (fun x _ h => hF x h) hF (fun w t H1 locs1 ht hvm hw hB hz hk hS1 => ?_)
  obtain ⟨hP1, hD1⟩ := hB
  rw [ht] at hP1
  obtain ⟨hP2, hD2⟩ := va_jn hP hD hk hF hP1 hD1
  exact kk w hw H1 locs1 hP2 hD2 hS1
end IW4
