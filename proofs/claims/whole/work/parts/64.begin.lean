/-! The law's start: what the tables give of the classes, and steps with locals. -/
theorem K_cls {args : Array Value} {s : State} (hts : ∀ w ∈ lw_g, w.before args s = true) : ∃ D : va_G, ∀ (c : Nat) (q : vw_C), vwCl[c]? = some q → u_Kn s q.1 q.2.1 q.2.2 (D.1 c) (D.2 c) := by
  have h : ∀ c : Nat, ∃ x : ClassId × (Nat → Nat), ∀ q : vw_C, vwCl[c]? = some q → u_Kn s q.1 q.2.1 q.2.2 x.1 x.2 := by
    intro c
    match c with
    | 0 => obtain ⟨cC, iS, h⟩ := u_known (n := 5) hts cl0 (hts _ (lw_gm 118 (by decide +kernel) rfl)); exact ⟨(cC, iS), fun q hq => by cases hq; exact h⟩
    | 1 => obtain ⟨cC, iS, h⟩ := u_known (n := 10) hts cl1 (hts _ (lw_gm 151 (by decide +kernel) rfl)); exact ⟨(cC, iS), fun q hq => by cases hq; exact h⟩
    | 2 => obtain ⟨cC, iS, h⟩ := u_known (n := 12) hts cl2 (hts _ (lw_gm 201 (by decide +kernel) rfl)); exact ⟨(cC, iS), fun q hq => by cases hq; exact h⟩
    | 3 => obtain ⟨cC, iS, h⟩ := u_known (n := 9) hts cl3 (hts _ (lw_gm 60 (by decide +kernel) rfl)); exact ⟨(cC, iS), fun q hq => by cases hq; exact h⟩
    | 4 => obtain ⟨cC, iS, h⟩ := u_known (n := 12) hts cl4 (hts _ (lw_gm 297 (by decide +kernel) rfl)); exact ⟨(cC, iS), fun q hq => by cases hq; exact h⟩
    | 5 => obtain ⟨cC, iS, h⟩ := u_known (n := 7) hts cl5 (hts _ (lw_gm 267 (by decide +kernel) rfl)); exact ⟨(cC, iS), fun q hq => by cases hq; exact h⟩
    | 6 => obtain ⟨cC, iS, h⟩ := u_known (n := 6) hts cl6 (hts _ (lw_gm 52 (by decide +kernel) rfl)); exact ⟨(cC, iS), fun q hq => by cases hq; exact h⟩
    | 7 => obtain ⟨cC, iS, h⟩ := u_known (n := 36) hts cl7 (hts _ (lw_gm 633 (by decide +kernel) rfl)); exact ⟨(cC, iS), fun q hq => by cases hq; exact h⟩
    | n + 8 => exact ⟨((0 : Nat), fun _ => 0), fun q hq => by cases hq⟩
  exact ⟨(fun c => (Classical.choose (h c)).1, fun c => (Classical.choose (h c)).2), fun c q hq => Classical.choose_spec (h c) q hq⟩
theorem arr_of {args : Array Value} {s : State} {ty : FieldType} (h : (Cond.arrayClass ty).before args s = true) : ∃ c : ClassId, s.vm.findClass ("[" ++ ty.toString) = some c ∧ ArrOfT s c ty := by
  obtain ⟨c, k, comp, h1, h2, h3⟩ := Cond.arrayClass_spec h
  exact ⟨c, h1, fun n z => ⟨fun k h => (by cases h), k, h2, comp, h3⟩⟩
theorem K_ex {args : Array Value} {s : State} (hts : ∀ w ∈ lw_g, w.before args s = true) (hn : nst s) : ∃ (cs : Cs) (D : va_G), va_K D vwCl (gTys cs) s := by
  obtain ⟨D, hD⟩ := K_cls hts
  obtain ⟨c1, a1, b1⟩ := arr_of (hts _ wd_arr.1)
  obtain ⟨c2, a2, b2⟩ := arr_of (hts _ wd_arr.2)
  obtain ⟨comp, c3, k, -, -, h3, h4, h5⟩ := arrayOver_specB hn.1
  refine ⟨(c1, c2, c3), D, hD, fun k0 q hq => ?_⟩
  match k0, hq with
  | 0, hq => cases hq; exact ⟨b1, a1⟩
  | 1, hq => cases hq; exact ⟨b2, a2⟩
  | 2, hq => cases hq; exact ⟨fun n z => ⟨fun k h => (by cases h), k, h3, comp, h4⟩, h5⟩
  | n + 3, hq => cases hq
theorem nst_ex {args : Array Value} {s : State} (hts : ∀ w ∈ lw_tbl, w.before args s = true) : nst s :=
  ⟨arrayOver_alikeB (Vm.Alike.refl s.vm) (hts (.arrayOver (.array .int)) (List.mem_of_getElem? (i := 66) (by decide +kernel))), va_Nw.of rfl (hts _ (List.mem_of_getElem? (i := 61) (by decide +kernel))), va_Nw.of rfl (hts _ (List.mem_of_getElem? (i := 152) (by decide +kernel))), va_Nw.of rfl (hts _ (List.mem_of_getElem? (i := 202) (by decide +kernel)))⟩
section IW5
variable {X : Ix} {own : String} {cc : ByteArray} {d : Nat} {ls : Array Slot} {pc : Nat} {st rest : List Value} {ws tl : va_W} {cells slots h0 ci : Nat} {fs : List Value}
theorem iW_ast {k : Fin 4} {x nL : Nat} {lv lv' : List (Nat × Value)} (C : iC X own cc d) (hd : decode cc pc = .ok (.astore_n k, 1)) (h : lv_has ls nL lv) (hn : (k : Nat) < nL) (hl : ((k : Nat), Value.ref x) :: lv.filter (fun q => !(q.1 == (k : Nat)) && !(q.1 + 1 == (k : Nat) && q.2.category == 2)) = lv') (kk : ∀ ls', lv_has ls' nL lv' → iW X ls' (pc + 1) st ws cells slots) : iW X ls pc (.ref x :: st) ws cells slots := by
  obtain ⟨p, l, e, R, s, m, args, below, meth, c, Q, D, A, H0, cs⟩ := X
  intro H locs hP hD hS
  obtain ⟨c1, c2, c3, c4, c5, c6, c7, c8⟩ := C
  exact lv_astore_n c1 c2 hd rfl h hn hl (fun ls' hl' => kk ls' hl' H locs hP hD hS)
theorem iW_istn {k : Fin 4} {nL : Nat} {x : Int32} {lv lv' : List (Nat × Value)} (C : iC X own cc d) (hd : decode cc pc = .ok (.istore_n k, 1)) (h : lv_has ls nL lv) (hn : (k : Nat) < nL) (hl : ((k : Nat), Value.int x) :: lv.filter (fun q => !(q.1 == (k : Nat)) && !(q.1 + 1 == (k : Nat) && q.2.category == 2)) = lv') (kk : ∀ ls', lv_has ls' nL lv' → iW X ls' (pc + 1) st ws cells slots) : iW X ls pc (.int x :: st) ws cells slots := by
  obtain ⟨p, l, e, R, s, m, args, below, meth, c, Q, D, A, H0, cs⟩ := X
  intro H locs hP hD hS
  obtain ⟨c1, c2, c3, c4, c5, c6, c7, c8⟩ := C
  exact lv_istore_n c1 c2 hd rfl h hn hl (fun ls' hl' => kk ls' hl' H locs hP hD hS)
theorem iC_le {d' : Nat} (C : iC X own cc d) (h : d' ≤ d) : iC X own cc d' := by
  obtain ⟨p, l, e, R, s, m, args, below, meth, c, Q, D, A, H0, cs⟩ := X
  obtain ⟨c1, c2, c3, c4, c5, c6, c7, c8⟩ := C
  exact ⟨c1, c2, c3, c4, c5, c6, c7, by omega, by omega⟩
end IW5
set_option maxRecDepth 20000 in
set_option maxHeartbeats 4000000 in
/-- from the law's first row to its loop: both systems stand, and their cells are the world of the start -/
theorem law_begin {X : Ix} {ls : Array Slot} {b : Nat} (C : iC X RL code 3) (hls : ∀ ls' : Array Slot, ls'.size = 4 → iL X ls') (hl : lv_has ls 4 [(0, .ref b)]) (hR : iR X 74 10839)
    (kk : ∀ (ls' : Array Slot) (q6 q7 : Nat) (w6 w7 : va_W), Sh6 (iS X) q6 w6 → Sh7 (iS X) q7 w7 → lv_has ls' 4 [(3, .int (Int32.ofInt 0)), (2, .ref q7), (1, .ref q6), (0, .ref b)] → iW X ls' 18 [] (([] ++ w6) ++ w7) 74 10839) : iW X ls 0 [] [] 0 0 := by
  refine iW_new (ix := 7) (cn := 6) (fz := fz6) (ty := tyX6) C rfl tyX6_ok fz6_ok ⟨lw_gm 51 (by decide +kernel) rfl, lw_gm 52 (by decide +kernel) rfl, lw_gm 41 (by decide +kernel) rfl⟩ (iR_le hR (by decide) (by decide)) (by decide +kernel) (fun q6 => iW_dup C (by decide +kernel) ?_)
  refine iW_call (ix := 9) (n := 0) C (hls ls hl.1) iX6 (by decide) (lw_gm 55 (by decide +kernel) rfl) (lw_gm 41 (by decide +kernel) rfl) (lw_gm 54 (by decide +kernel) rfl) rfl ⟨by decide +kernel, by decide +kernel, by decide +kernel⟩ rfl (Or.inl (lw_gm 53 (by decide +kernel) rfl)) (Nat.le_of_ble_eq_true rfl) (iR_le hR (by decide) (by decide)) rfl (by decide +kernel) (fun w6 h6 => ?_)
  refine iW_ast (k := 1) C (by decide +kernel) hl (by decide) rfl (fun ls1 hl1 => ?_)
  refine iW_new (ix := 10) (cn := 7) (fz := fz7) (ty := tyX7) C rfl tyX7_ok fz7_ok ⟨lw_gm 632 (by decide +kernel) rfl, lw_gm 633 (by decide +kernel) rfl, lw_gm 48 (by decide +kernel) rfl⟩ (iR_le hR (by decide) (by decide)) (by decide +kernel) (fun q7 => iW_dup C (by decide +kernel) ?_)
  refine iW_call (ix := 12) (n := 0) (iC_le C (by decide)) (hls ls1 hl1.1) iX7 (by decide) (lw_gm 636 (by decide +kernel) rfl) (lw_gm 48 (by decide +kernel) rfl) (lw_gm 635 (by decide +kernel) rfl) rfl ⟨by decide +kernel, by decide +kernel, by decide +kernel⟩ rfl (Or.inl (lw_gm 634 (by decide +kernel) rfl)) (Nat.le_of_ble_eq_true rfl) (iR_le hR (by decide) (by decide)) rfl (by decide +kernel) (fun w7 h7 => ?_)
  refine iW_ast (k := 2) C (by decide +kernel) hl1 (by decide) rfl (fun ls2 hl2 => ?_)
  refine iW_push (ins := .iconst 0) (a := 1) (v := 0) C (by decide +kernel) (by decide) (iW_istn (k := 3) C (by decide +kernel) hl2 (by decide) rfl (fun ls3 hl3 => ?_))
  exact kk ls3 q6 q7 w6 w7 h6 h7 hl3
