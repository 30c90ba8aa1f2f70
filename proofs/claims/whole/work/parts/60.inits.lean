/-! Constructors: their contracts: by program -/
theorem fSet_len : ∀ (sp : List Spe) (fs : List Value) (u : Nat → Nat), (fSet fs sp u).length = fs.length
  | [], _, _ => rfl
  | e :: sp, fs, u => by
    show (fSet (fs.set e.2.2.2.2.2.1 (.ref (u 0))) sp (fun j => u (j + 1))).length = _
    rw [fSet_len, List.length_set]
theorem iW_ist {X : Ix} {own : String} {cc : ByteArray} {d : Nat} {ls : Array Slot} {pc h0 : Nat} {st : List Value} {ws : va_W} {cells slots : Nat} {x : Int32} (C : iC X own cc d) (hd : decode cc pc = .ok (.istore_n 1, 1)) (hl : lv_has ls 2 [(0, .ref h0)]) (kk : ∀ ls', lv_has ls' 2 [(1, .int x), (0, .ref h0)] → iW X ls' (pc + 1) st ws cells slots) : iW X ls pc (.int x :: st) ws cells slots := by
  obtain ⟨p, l, e, R, s, m, args, below, meth, c, Q, D, A, H0, cs⟩ := X
  intro H locs hP hD hS
  obtain ⟨c1, c2, c3, c4, c5, c6, c7, c8⟩ := C
  exact lv_istore_n c1 c2 hd rfl hl (by decide) rfl (fun ls' hl' => kk ls' hl' H locs hP hD hS)
theorem set_same {ws : va_W} {i : Nat} {x : Nat × va_E} (h : ws[i]? = some x) : ws.set i x = ws := by
  apply List.ext_getElem?
  intro k
  by_cases e : i = k
  · subst e
    rw [List.getElem?_set_self (List.getElem?_eq_some_iff.mp h).1, h]
  · rw [List.getElem?_set_ne e]
theorem iW_loop0 {X : Ix} {own : String} {cc : ByteArray} {d : Nat} {ws : va_W} {cells slots h0 ci : Nat} {fs : List Value} {T : u_T} {N ka kb ia ib qa qb a b p0 : Nat} (C : iC X own cc d) (hci : vwCl[ci]? = some (own, T, N)) (hr : loopOk cc p0 ia ib) (hka : ka < N) (hkb : kb < N) (hla : Cond.fieldLink own ia (T ka).1 (T ka).2.1 (T ka).2.2.1 ∈ lw_g) (hlb : Cond.fieldLink own ib (T kb).1 (T kb).2.1 (T kb).2.2.1 ∈ lw_g)
    (he : ws[0]? = some (h0, .inr (ci, fs))) (hfa : fs[ka]? = some (.ref a)) (hfb : fs[kb]? = some (.ref b)) (hqa : ws[qa]? = some (a, aZ (iS X) false 8)) (hqb : ws[qb]? = some (b, aZ (iS X) false 8)) (ha0 : qa ≠ 0) (hb0 : qb ≠ 0) (hab : qa ≠ qb)
    (kk : ∀ ls, iW X ls (p0 + 28) [] ((ws.set qa (a, A6 (iS X) 8)).set qb (b, A6 (iS X) 8)) cells slots) (ls : Array Slot) (hl : lv_has ls 2 [(1, .int (Int32.ofInt 0)), (0, .ref h0)]) : iW X ls p0 [] ws cells slots := by
  have L := iW_loop C hci hr hka hkb hla hlb he hfa hfb hqa hqb ha0 hb0 hab kk 8 0 rfl ls hl
  rw [A6_0, set_same hqa, set_same hqb] at L
  exact L
def fz3 : List Value := [.int (Int32.ofInt 0), .null, .null, .null, .null, .null, .null, .null, .null]
theorem fz3_ok : ∀ j, j < 9 → defaultValue (tyX3 j) = vp_V fz3 j := by decide +kernel
def sp3_0 : List Spe := [(4, 1, .iconst 4, false, 9, 1, 4), (11, 1, .iconst 4, false, 15, 2, 4), (18, 1, .iconst 4, true, 18, 3, 4)]
theorem sp3_0_ok : spsOk RX3 cX3_init TX3 9 4 sp3_0 25 := ⟨rfl, ⟨by decide +kernel, by decide +kernel, by decide, by decide +kernel, by decide +kernel, by decide, lw_gm 71 (by decide +kernel) rfl, rfl, by decide +kernel, by decide⟩, ⟨rfl, ⟨by decide +kernel, by decide +kernel, by decide, by decide +kernel, by decide +kernel, by decide, lw_gm 75 (by decide +kernel) rfl, rfl, by decide +kernel, by decide⟩, ⟨rfl, ⟨by decide +kernel, by decide +kernel, by decide, by decide +kernel, by decide +kernel, by decide, lw_gm 78 (by decide +kernel) rfl, rfl, by decide +kernel, by decide⟩, rfl⟩⟩⟩
def sp3_1 : List Spe := [(37, 1, .iconst 4, false, 27, 5, 4), (44, 1, .iconst 4, false, 30, 6, 4), (51, 1, .iconst 4, false, 33, 7, 4), (58, 1, .iconst 4, false, 36, 8, 4)]
theorem sp3_1_ok : spsOk RX3 cX3_init TX3 9 37 sp3_1 65 := ⟨rfl, ⟨by decide +kernel, by decide +kernel, by decide, by decide +kernel, by decide +kernel, by decide, lw_gm 84 (by decide +kernel) rfl, rfl, by decide +kernel, by decide⟩, ⟨rfl, ⟨by decide +kernel, by decide +kernel, by decide, by decide +kernel, by decide +kernel, by decide, lw_gm 87 (by decide +kernel) rfl, rfl, by decide +kernel, by decide⟩, ⟨rfl, ⟨by decide +kernel, by decide +kernel, by decide, by decide +kernel, by decide +kernel, by decide, lw_gm 90 (by decide +kernel) rfl, rfl, by decide +kernel, by decide⟩, ⟨rfl, ⟨by decide +kernel, by decide +kernel, by decide, by decide +kernel, by decide +kernel, by decide, lw_gm 93 (by decide +kernel) rfl, rfl, by decide +kernel, by decide⟩, rfl⟩⟩⟩⟩
def Sh3 (cs : Cs) (h0 : Nat) (w : va_W) : Prop := ∃ (u0 u1 u2 : Nat → Nat), w = (h0, .inr (3, (fSet ((fSet fz3 sp3_0 u0).set 4 (.ref (u1 0))) sp3_1 u2))) :: ((([] ++ aLst cs sp3_0 u0) ++ rowsW cs u1) ++ aLst cs sp3_1 u2)
set_option maxRecDepth 20000 in
set_option maxHeartbeats 4000000 in
theorem fe3 (u0 u1 u2 : Nat → Nat) : (fSet ((fSet fz3 sp3_0 u0).set 4 (.ref (u1 0))) sp3_1 u2) = [.int (Int32.ofInt 0), .ref (u0 0), .ref (u0 1), .ref (u0 2), .ref (u1 0), .ref (u2 0), .ref (u2 1), .ref (u2 2), .ref (u2 3)] := by simp only [fSet, fz3, sp3_0, sp3_1, List.set_cons_zero, List.set_cons_succ, Nat.zero_add, Nat.reduceAdd]
set_option maxRecDepth 20000 in
set_option maxHeartbeats 4000000 in
theorem iX3 : iMet yX3_init cX3_init 1 3 fz3 1 12 1632 [] (Sh3) := by
  refine iMet_of (by decide +kernel) rfl (Nat.le_of_ble_eq_true rfl) ?_
  intro X ls h0 C hN hL hl hR ret
  have C : iC X RX3 cX3_init 1 := C
  have h0l : ls[0]? = some (.val (.ref h0)) := lv_at hl 0 rfl
  refine iW_aload_n (k := 0) C (by decide +kernel) h0l (iW_obj (ix := 3) C hL (lw_gm 64 (by decide +kernel) rfl) (by decide +kernel) ?_)
  refine iW_ars (mc := 3) (ms := 12) C hN rfl h0l sp3_0_ok (by first | rfl | (simp only [fSet_len, List.length_set]; rfl)) (iR_le hR (by decide) (by decide)) rfl rfl (fun u0 => ?_)
  refine iW_aload_n (k := 0) C (by decide +kernel) h0l (iW_push (ins := .iconst 4) (a := 1) (v := 4) C (by decide +kernel) (by decide) (iW_push (ins := .sipush 400) (a := 3) (v := 400) C (by decide +kernel) (by decide) (iW_mna (ix := 22) C (lw_gm 65 (by decide +kernel) rfl) (by decide +kernel) (iR_le hR (by decide) (by decide)) (fun u1 => ?_))))
  refine iW_put (ix := 24) (k := 4) (ty := (.array (.array .int))) C hN rfl (by decide) (lw_gm 82 (by decide +kernel) rfl) rfl (by decide +kernel) rfl rfl (by first | decide | (simp only [fSet_len, List.length_set]; decide)) (by decide +kernel) ?_
  refine iW_ars (mc := 12) (ms := 1632) C hN rfl h0l sp3_1_ok (by first | rfl | (simp only [fSet_len, List.length_set]; rfl)) (iR_le hR (by decide) (by decide)) rfl rfl (fun u2 => ?_)
  exact ret _ _ _ ⟨u0, u1, u2, rfl⟩ (by decide +kernel)
def fz0 : List Value := [.null, .null, .null, .null, .null]
theorem fz0_ok : ∀ j, j < 5 → defaultValue (tyX0 j) = vp_V fz0 j := by decide +kernel
def sp0_0 : List Spe := [(4, 2, .bipush 8, false, 9, 0, 8), (12, 2, .bipush 8, false, 15, 1, 8), (20, 2, .bipush 8, true, 18, 2, 8), (28, 2, .bipush 8, false, 22, 3, 8), (36, 2, .bipush 8, false, 25, 4, 8)]
theorem sp0_0_ok : spsOk RX0 cX0_init TX0 5 4 sp0_0 44 := ⟨rfl, ⟨by decide +kernel, by decide +kernel, by decide, by decide +kernel, by decide +kernel, by decide, lw_gm 123 (by decide +kernel) rfl, rfl, by decide +kernel, by decide⟩, ⟨rfl, ⟨by decide +kernel, by decide +kernel, by decide, by decide +kernel, by decide +kernel, by decide, lw_gm 127 (by decide +kernel) rfl, rfl, by decide +kernel, by decide⟩, ⟨rfl, ⟨by decide +kernel, by decide +kernel, by decide, by decide +kernel, by decide +kernel, by decide, lw_gm 130 (by decide +kernel) rfl, rfl, by decide +kernel, by decide⟩, ⟨rfl, ⟨by decide +kernel, by decide +kernel, by decide, by decide +kernel, by decide +kernel, by decide, lw_gm 133 (by decide +kernel) rfl, rfl, by decide +kernel, by decide⟩, ⟨rfl, ⟨by decide +kernel, by decide +kernel, by decide, by decide +kernel, by decide +kernel, by decide, lw_gm 136 (by decide +kernel) rfl, rfl, by decide +kernel, by decide⟩, rfl⟩⟩⟩⟩⟩
def Sh0 (cs : Cs) (h0 : Nat) (w : va_W) : Prop := ∃ (u0 : Nat → Nat), w = (((h0, .inr (0, (fSet fz0 sp0_0 u0))) :: ([] ++ aLst cs sp0_0 u0)).set 1 ((u0 0), A6 cs 8)).set 2 ((u0 1), A6 cs 8)
set_option maxRecDepth 20000 in
set_option maxHeartbeats 4000000 in
theorem fe0 (u0 : Nat → Nat) : (fSet fz0 sp0_0 u0) = [.ref (u0 0), .ref (u0 1), .ref (u0 2), .ref (u0 3), .ref (u0 4)] := by simp only [fSet, fz0, sp0_0, List.set_cons_zero, List.set_cons_succ, Nat.zero_add, Nat.reduceAdd]
set_option maxRecDepth 20000 in
theorem lp0_a (u0 : Nat → Nat) : ((fSet fz0 sp0_0 u0))[0]? = some (.ref (u0 0)) := by rw [fe0]; rfl
set_option maxRecDepth 20000 in
theorem lp0_b (u0 : Nat → Nat) : ((fSet fz0 sp0_0 u0))[1]? = some (.ref (u0 1)) := by rw [fe0]; rfl
set_option maxRecDepth 20000 in
theorem lp0_qa (cs : Cs) (h0 : Nat) (u0 : Nat → Nat) : (((h0, .inr (0, (fSet fz0 sp0_0 u0))) :: ([] ++ aLst cs sp0_0 u0)) : va_W)[1]? = some ((u0 0), aZ cs false 8) := rfl
set_option maxRecDepth 20000 in
theorem lp0_qb (cs : Cs) (h0 : Nat) (u0 : Nat → Nat) : (((h0, .inr (0, (fSet fz0 sp0_0 u0))) :: ([] ++ aLst cs sp0_0 u0)) : va_W)[2]? = some ((u0 1), aZ cs false 8) := rfl
set_option maxRecDepth 20000 in
set_option maxHeartbeats 4000000 in
theorem iX0 : iMet yX0_init cX0_init 2 0 fz0 1 5 40 [] (Sh0) := by
  refine iMet_of (by decide +kernel) rfl (Nat.le_of_ble_eq_true rfl) ?_
  intro X ls h0 C hN hL hl hR ret
  have C : iC X RX0 cX0_init 1 := C
  have h0l : ls[0]? = some (.val (.ref h0)) := lv_at hl 0 rfl
  refine iW_aload_n (k := 0) C (by decide +kernel) h0l (iW_obj (ix := 3) C hL (lw_gm 122 (by decide +kernel) rfl) (by decide +kernel) ?_)
  refine iW_ars (mc := 5) (ms := 40) C hN rfl h0l sp0_0_ok (by first | rfl | (simp only [fSet_len, List.length_set]; rfl)) (iR_le hR (by decide) (by decide)) rfl rfl (fun u0 => ?_)
  refine iW_push (ins := .iconst 0) (a := 1) (v := 0) C (by decide +kernel) (by decide) (iW_ist C (by decide +kernel) hl (fun ls1 hl1 => ?_))
  exact iW_loop0 (ws := (h0, .inr (0, (fSet fz0 sp0_0 u0))) :: ([] ++ aLst (iS X) sp0_0 u0)) (p0 := 46) (ia := 9) (ib := 15) (ka := 0) (kb := 1) (qa := 1) (qb := 2) (a := (u0 0)) (b := (u0 1)) (cells := 5) (slots := 40) C rfl ⟨by decide +kernel, by decide +kernel, by decide +kernel, by decide +kernel, by decide +kernel, by decide +kernel, by decide +kernel, by decide +kernel, by decide +kernel, by decide +kernel, by decide +kernel, by decide +kernel, by decide +kernel, by decide +kernel, by decide +kernel⟩ (by decide) (by decide) (lw_gm 123 (by decide +kernel) rfl) (lw_gm 127 (by decide +kernel) rfl) rfl (lp0_a  u0) (lp0_b  u0) (lp0_qa (iS X) h0  u0) (lp0_qb (iS X) h0  u0) (by decide) (by decide) (by decide) (fun ls2 => ret _ _ _ ⟨u0, rfl⟩ (by decide +kernel)) ls1 hl1
def fz1 : List Value := [.int (Int32.ofInt 0), .int (Int32.ofInt 0), .int (Int32.ofInt 0), .null, .null, .null, .null, .null, .null, .null]
theorem fz1_ok : ∀ j, j < 10 → defaultValue (tyX1 j) = vp_V fz1 j := by decide +kernel
def sp1_0 : List Spe := [(14, 2, .bipush 16, false, 18, 3, 16), (22, 2, .bipush 16, false, 22, 4, 16), (30, 2, .bipush 16, false, 25, 5, 16), (38, 2, .bipush 16, false, 28, 6, 16), (46, 2, .bipush 16, false, 31, 7, 16), (54, 2, .bipush 16, false, 34, 8, 16), (62, 2, .bipush 16, true, 37, 9, 16)]
theorem sp1_0_ok : spsOk RX1 cX1_init TX1 10 14 sp1_0 70 := ⟨rfl, ⟨by decide +kernel, by decide +kernel, by decide, by decide +kernel, by decide +kernel, by decide, lw_gm 163 (by decide +kernel) rfl, rfl, by decide +kernel, by decide⟩, ⟨rfl, ⟨by decide +kernel, by decide +kernel, by decide, by decide +kernel, by decide +kernel, by decide, lw_gm 166 (by decide +kernel) rfl, rfl, by decide +kernel, by decide⟩, ⟨rfl, ⟨by decide +kernel, by decide +kernel, by decide, by decide +kernel, by decide +kernel, by decide, lw_gm 168 (by decide +kernel) rfl, rfl, by decide +kernel, by decide⟩, ⟨rfl, ⟨by decide +kernel, by decide +kernel, by decide, by decide +kernel, by decide +kernel, by decide, lw_gm 171 (by decide +kernel) rfl, rfl, by decide +kernel, by decide⟩, ⟨rfl, ⟨by decide +kernel, by decide +kernel, by decide, by decide +kernel, by decide +kernel, by decide, lw_gm 173 (by decide +kernel) rfl, rfl, by decide +kernel, by decide⟩, ⟨rfl, ⟨by decide +kernel, by decide +kernel, by decide, by decide +kernel, by decide +kernel, by decide, lw_gm 176 (by decide +kernel) rfl, rfl, by decide +kernel, by decide⟩, ⟨rfl, ⟨by decide +kernel, by decide +kernel, by decide, by decide +kernel, by decide +kernel, by decide, lw_gm 177 (by decide +kernel) rfl, rfl, by decide +kernel, by decide⟩, rfl⟩⟩⟩⟩⟩⟩⟩
def Sh1 (cs : Cs) (h0 : Nat) (w : va_W) : Prop := ∃ (u0 : Nat → Nat), w = (h0, .inr (1, (fSet ((fz1.set 1 (.int (Int32.ofInt 1))).set 2 (.int (Int32.ofInt 0))) sp1_0 u0))) :: ([] ++ aLst cs sp1_0 u0)
set_option maxRecDepth 20000 in
set_option maxHeartbeats 4000000 in
theorem fe1 (u0 : Nat → Nat) : (fSet ((fz1.set 1 (.int (Int32.ofInt 1))).set 2 (.int (Int32.ofInt 0))) sp1_0 u0) = [.int (Int32.ofInt 0), .int (Int32.ofInt 1), .int (Int32.ofInt 0), .ref (u0 0), .ref (u0 1), .ref (u0 2), .ref (u0 3), .ref (u0 4), .ref (u0 5), .ref (u0 6)] := by simp only [fSet, fz1, sp1_0, List.set_cons_zero, List.set_cons_succ, Nat.zero_add, Nat.reduceAdd]
set_option maxRecDepth 20000 in
set_option maxHeartbeats 4000000 in
theorem iX1 : iMet yX1_init cX1_init 1 1 fz1 1 7 112 [] (Sh1) := by
  refine iMet_of (by decide +kernel) rfl (Nat.le_of_ble_eq_true rfl) ?_
  intro X ls h0 C hN hL hl hR ret
  have C : iC X RX1 cX1_init 1 := C
  have h0l : ls[0]? = some (.val (.ref h0)) := lv_at hl 0 rfl
  refine iW_aload_n (k := 0) C (by decide +kernel) h0l (iW_obj (ix := 3) C hL (lw_gm 155 (by decide +kernel) rfl) (by decide +kernel) ?_)
  refine iW_aload_n (k := 0) C (by decide +kernel) h0l (iW_push (ins := .iconst 1) (a := 1) (v := 1) C (by decide +kernel) (by decide) ?_)
  refine iW_put (ix := 9) (k := 1) (ty := .int) C hN rfl (by decide) (lw_gm 159 (by decide +kernel) rfl) rfl (by decide +kernel) rfl rfl (by first | decide | (simp only [fSet_len, List.length_set]; decide)) (by decide +kernel) ?_
  refine iW_aload_n (k := 0) C (by decide +kernel) h0l (iW_push (ins := .iconst 0) (a := 1) (v := 0) C (by decide +kernel) (by decide) ?_)
  refine iW_put (ix := 15) (k := 2) (ty := .int) C hN rfl (by decide) (lw_gm 161 (by decide +kernel) rfl) rfl (by decide +kernel) rfl rfl (by first | decide | (simp only [fSet_len, List.length_set]; decide)) (by decide +kernel) ?_
  refine iW_ars (mc := 7) (ms := 112) C hN rfl h0l sp1_0_ok (by first | rfl | (simp only [fSet_len, List.length_set]; rfl)) (iR_le hR (by decide) (by decide)) rfl rfl (fun u0 => ?_)
  exact ret _ _ _ ⟨u0, rfl⟩ (by decide +kernel)
def fz2 : List Value := [.int (Int32.ofInt 0), .null, .null, .null, .null, .null, .null, .null, .null, .null, .null, .null]
theorem fz2_ok : ∀ j, j < 12 → defaultValue (tyX2 j) = vp_V fz2 j := by decide +kernel
def sp2_0 : List Spe := [(4, 3, .sipush 400, false, 9, 1, 400), (13, 3, .sipush 400, false, 15, 2, 400), (22, 3, .sipush 400, false, 18, 3, 400), (31, 3, .sipush 400, false, 21, 4, 400), (40, 3, .sipush 400, false, 24, 5, 400), (49, 3, .sipush 400, false, 27, 6, 400), (58, 3, .sipush 400, false, 30, 7, 400), (67, 3, .sipush 400, false, 33, 8, 400), (76, 3, .sipush 400, false, 36, 9, 400), (85, 3, .sipush 400, false, 39, 10, 400), (94, 2, .bipush 6, false, 42, 11, 6)]
theorem sp2_0_ok : spsOk RX2 cX2_init TX2 12 4 sp2_0 102 := ⟨rfl, ⟨by decide +kernel, by decide +kernel, by decide, by decide +kernel, by decide +kernel, by decide, lw_gm 209 (by decide +kernel) rfl, rfl, by decide +kernel, by decide⟩, ⟨rfl, ⟨by decide +kernel, by decide +kernel, by decide, by decide +kernel, by decide +kernel, by decide, lw_gm 212 (by decide +kernel) rfl, rfl, by decide +kernel, by decide⟩, ⟨rfl, ⟨by decide +kernel, by decide +kernel, by decide, by decide +kernel, by decide +kernel, by decide, lw_gm 215 (by decide +kernel) rfl, rfl, by decide +kernel, by decide⟩, ⟨rfl, ⟨by decide +kernel, by decide +kernel, by decide, by decide +kernel, by decide +kernel, by decide, lw_gm 218 (by decide +kernel) rfl, rfl, by decide +kernel, by decide⟩, ⟨rfl, ⟨by decide +kernel, by decide +kernel, by decide, by decide +kernel, by decide +kernel, by decide, lw_gm 221 (by decide +kernel) rfl, rfl, by decide +kernel, by decide⟩, ⟨rfl, ⟨by decide +kernel, by decide +kernel, by decide, by decide +kernel, by decide +kernel, by decide, lw_gm 224 (by decide +kernel) rfl, rfl, by decide +kernel, by decide⟩, ⟨rfl, ⟨by decide +kernel, by decide +kernel, by decide, by decide +kernel, by decide +kernel, by decide, lw_gm 226 (by decide +kernel) rfl, rfl, by decide +kernel, by decide⟩, ⟨rfl, ⟨by decide +kernel, by decide +kernel, by decide, by decide +kernel, by decide +kernel, by decide, lw_gm 229 (by decide +kernel) rfl, rfl, by decide +kernel, by decide⟩, ⟨rfl, ⟨by decide +kernel, by decide +kernel, by decide, by decide +kernel, by decide +kernel, by decide, lw_gm 232 (by decide +kernel) rfl, rfl, by decide +kernel, by decide⟩, ⟨rfl, ⟨by decide +kernel, by decide +kernel, by decide, by decide +kernel, by decide +kernel, by decide, lw_gm 235 (by decide +kernel) rfl, rfl, by decide +kernel, by decide⟩, ⟨rfl, ⟨by decide +kernel, by decide +kernel, by decide, by decide +kernel, by decide +kernel, by decide, lw_gm 238 (by decide +kernel) rfl, rfl, by decide +kernel, by decide⟩, rfl⟩⟩⟩⟩⟩⟩⟩⟩⟩⟩⟩
def Sh2 (cs : Cs) (h0 : Nat) (w : va_W) : Prop := ∃ (u0 : Nat → Nat), w = (h0, .inr (2, (fSet fz2 sp2_0 u0))) :: ([] ++ aLst cs sp2_0 u0)
set_option maxRecDepth 20000 in
set_option maxHeartbeats 4000000 in
theorem fe2 (u0 : Nat → Nat) : (fSet fz2 sp2_0 u0) = [.int (Int32.ofInt 0), .ref (u0 0), .ref (u0 1), .ref (u0 2), .ref (u0 3), .ref (u0 4), .ref (u0 5), .ref (u0 6), .ref (u0 7), .ref (u0 8), .ref (u0 9), .ref (u0 10)] := by simp only [fSet, fz2, sp2_0, List.set_cons_zero, List.set_cons_succ, Nat.zero_add, Nat.reduceAdd]
set_option maxRecDepth 20000 in
set_option maxHeartbeats 4000000 in
theorem iX2 : iMet yX2_init cX2_init 1 2 fz2 1 11 4006 [] (Sh2) := by
  refine iMet_of (by decide +kernel) rfl (Nat.le_of_ble_eq_true rfl) ?_
  intro X ls h0 C hN hL hl hR ret
  have C : iC X RX2 cX2_init 1 := C
  have h0l : ls[0]? = some (.val (.ref h0)) := lv_at hl 0 rfl
  refine iW_aload_n (k := 0) C (by decide +kernel) h0l (iW_obj (ix := 3) C hL (lw_gm 205 (by decide +kernel) rfl) (by decide +kernel) ?_)
  refine iW_ars (mc := 11) (ms := 4006) C hN rfl h0l sp2_0_ok (by first | rfl | (simp only [fSet_len, List.length_set]; rfl)) (iR_le hR (by decide) (by decide)) rfl rfl (fun u0 => ?_)
  exact ret _ _ _ ⟨u0, rfl⟩ (by decide +kernel)
def fz5 : List Value := [.int (Int32.ofInt 0), .int (Int32.ofInt 0), .null, .null, .null, .null, .null]
theorem fz5_ok : ∀ j, j < 7 → defaultValue (tyX5 j) = vp_V fz5 j := by decide +kernel
def sp5_0 : List Spe := [(4, 2, .bipush 16, true, 9, 6, 16)]
theorem sp5_0_ok : spsOk RX5 cX5_init TX5 7 4 sp5_0 12 := ⟨rfl, ⟨by decide +kernel, by decide +kernel, by decide, by decide +kernel, by decide +kernel, by decide, lw_gm 280 (by decide +kernel) rfl, rfl, by decide +kernel, by decide⟩, rfl⟩
def Sh5 (a1 : Nat) (a2 : Nat) (a3 : Nat) (a4 : Nat) (cs : Cs) (h0 : Nat) (w : va_W) : Prop := ∃ (u0 : Nat → Nat), w = (h0, .inr (5, (((((fSet fz5 sp5_0 u0).set 2 (.ref a1)).set 3 (.ref a2)).set 4 (.ref a3)).set 5 (.ref a4)))) :: ([] ++ aLst cs sp5_0 u0)
set_option maxRecDepth 20000 in
set_option maxHeartbeats 4000000 in
theorem fe5 (a1 : Nat) (a2 : Nat) (a3 : Nat) (a4 : Nat) (u0 : Nat → Nat) : (((((fSet fz5 sp5_0 u0).set 2 (.ref a1)).set 3 (.ref a2)).set 4 (.ref a3)).set 5 (.ref a4)) = [.int (Int32.ofInt 0), .int (Int32.ofInt 0), .ref a1, .ref a2, .ref a3, .ref a4, .ref (u0 0)] := by simp only [fSet, fz5, sp5_0, List.set_cons_zero, List.set_cons_succ, Nat.zero_add, Nat.reduceAdd]
set_option maxRecDepth 20000 in
set_option maxHeartbeats 4000000 in
theorem iX5 (a1 : Nat) (a2 : Nat) (a3 : Nat) (a4 : Nat) : iMet yX5_init cX5_init 5 5 fz5 1 1 16 [.ref a1, .ref a2, .ref a3, .ref a4] (Sh5 a1 a2 a3 a4) := by
  refine iMet_of (by decide +kernel) rfl (Nat.le_of_ble_eq_true rfl) ?_
  intro X ls h0 C hN hL hl hR ret
  have C : iC X RX5 cX5_init 1 := C
  have h0l : ls[0]? = some (.val (.ref h0)) := lv_at hl 0 rfl
  refine iW_aload_n (k := 0) C (by decide +kernel) h0l (iW_obj (ix := 3) C hL (lw_gm 271 (by decide +kernel) rfl) (by decide +kernel) ?_)
  refine iW_ars (mc := 1) (ms := 16) C hN rfl h0l sp5_0_ok (by first | rfl | (simp only [fSet_len, List.length_set]; rfl)) (iR_le hR (by decide) (by decide)) rfl rfl (fun u0 => ?_)
  refine iW_aload_n (k := 0) C (by decide +kernel) h0l (iW_aload_n (k := 1) C (by decide +kernel) (lv_at hl 1 rfl) ?_)
  refine iW_put (ix := 15) (k := 2) (ty := (.object "BundleLinks$Links")) C hN rfl (by decide) (lw_gm 276 (by decide +kernel) rfl) rfl (by decide +kernel) rfl rfl (by first | decide | (simp only [fSet_len, List.length_set]; decide)) (by decide +kernel) ?_
  refine iW_aload_n (k := 0) C (by decide +kernel) h0l (iW_aload_n (k := 2) C (by decide +kernel) (lv_at hl 2 rfl) ?_)
  refine iW_put (ix := 19) (k := 3) (ty := (.object "BundleLinks$Buckets")) C hN rfl (by decide) (lw_gm 277 (by decide +kernel) rfl) rfl (by decide +kernel) rfl rfl (by first | decide | (simp only [fSet_len, List.length_set]; decide)) (by decide +kernel) ?_
  refine iW_aload_n (k := 0) C (by decide +kernel) h0l (iW_aload_n (k := 3) C (by decide +kernel) (lv_at hl 3 rfl) ?_)
  refine iW_put (ix := 23) (k := 4) (ty := (.object "BundleLinks$Flows")) C hN rfl (by decide) (lw_gm 278 (by decide +kernel) rfl) rfl (by decide +kernel) rfl rfl (by first | decide | (simp only [fSet_len, List.length_set]; decide)) (by decide +kernel) ?_
  refine iW_aload_n (k := 0) C (by decide +kernel) h0l (iW_aload (k := 4) C (by decide +kernel) (lv_at hl 4 rfl) ?_)
  refine iW_put (ix := 27) (k := 5) (ty := (.object "BundleLinks$Letters")) C hN rfl (by decide) (lw_gm 279 (by decide +kernel) rfl) rfl (by decide +kernel) rfl rfl (by first | decide | (simp only [fSet_len, List.length_set]; decide)) (by decide +kernel) ?_
  exact ret _ _ _ ⟨u0, rfl⟩ (by decide +kernel)
def fz4 : List Value := [.int (Int32.ofInt 0), .null, .null, .null, .null, .null, .null, .null, .int (Int32.ofInt 0), .int (Int32.ofInt 0), .int (Int32.ofInt 0), .int (Int32.ofInt 0)]
theorem fz4_ok : ∀ j, j < 12 → defaultValue (tyX4 j) = vp_V fz4 j := by decide +kernel
def sp4_0 : List Spe := [(4, 2, .bipush 8, false, 9, 1, 8), (12, 2, .bipush 8, false, 15, 5, 8), (20, 1, .iconst 4, false, 18, 6, 4), (27, 2, .bipush 8, false, 21, 7, 8)]
theorem sp4_0_ok : spsOk RX4 cX4_init TX4 12 4 sp4_0 35 := ⟨rfl, ⟨by decide +kernel, by decide +kernel, by decide, by decide +kernel, by decide +kernel, by decide, lw_gm 304 (by decide +kernel) rfl, rfl, by decide +kernel, by decide⟩, ⟨rfl, ⟨by decide +kernel, by decide +kernel, by decide, by decide +kernel, by decide +kernel, by decide, lw_gm 309 (by decide +kernel) rfl, rfl, by decide +kernel, by decide⟩, ⟨rfl, ⟨by decide +kernel, by decide +kernel, by decide, by decide +kernel, by decide +kernel, by decide, lw_gm 310 (by decide +kernel) rfl, rfl, by decide +kernel, by decide⟩, ⟨rfl, ⟨by decide +kernel, by decide +kernel, by decide, by decide +kernel, by decide +kernel, by decide, lw_gm 311 (by decide +kernel) rfl, rfl, by decide +kernel, by decide⟩, rfl⟩⟩⟩⟩
def Sh4 (a1 : Nat) (a2 : Nat) (a3 : Nat) (cs : Cs) (h0 : Nat) (w : va_W) : Prop := ∃ (u0 : Nat → Nat), w = (h0, .inr (4, ((((fSet fz4 sp4_0 u0).set 2 (.ref a1)).set 3 (.ref a2)).set 4 (.ref a3)))) :: ([] ++ aLst cs sp4_0 u0)
set_option maxRecDepth 20000 in
set_option maxHeartbeats 4000000 in
theorem fe4 (a1 : Nat) (a2 : Nat) (a3 : Nat) (u0 : Nat → Nat) : ((((fSet fz4 sp4_0 u0).set 2 (.ref a1)).set 3 (.ref a2)).set 4 (.ref a3)) = [.int (Int32.ofInt 0), .ref (u0 0), .ref a1, .ref a2, .ref a3, .ref (u0 1), .ref (u0 2), .ref (u0 3), .int (Int32.ofInt 0), .int (Int32.ofInt 0), .int (Int32.ofInt 0), .int (Int32.ofInt 0)] := by simp only [fSet, fz4, sp4_0, List.set_cons_zero, List.set_cons_succ, Nat.zero_add, Nat.reduceAdd]
set_option maxRecDepth 20000 in
set_option maxHeartbeats 4000000 in
theorem iX4 (a1 : Nat) (a2 : Nat) (a3 : Nat) : iMet yX4_init cX4_init 4 4 fz4 1 4 28 [.ref a1, .ref a2, .ref a3] (Sh4 a1 a2 a3) := by
  refine iMet_of (by decide +kernel) rfl (Nat.le_of_ble_eq_true rfl) ?_
  intro X ls h0 C hN hL hl hR ret
  have C : iC X RX4 cX4_init 1 := C
  have h0l : ls[0]? = some (.val (.ref h0)) := lv_at hl 0 rfl
  refine iW_aload_n (k := 0) C (by decide +kernel) h0l (iW_obj (ix := 3) C hL (lw_gm 301 (by decide +kernel) rfl) (by decide +kernel) ?_)
  refine iW_ars (mc := 4) (ms := 28) C hN rfl h0l sp4_0_ok (by first | rfl | (simp only [fSet_len, List.length_set]; rfl)) (iR_le hR (by decide) (by decide)) rfl rfl (fun u0 => ?_)
  refine iW_aload_n (k := 0) C (by decide +kernel) h0l (iW_aload_n (k := 1) C (by decide +kernel) (lv_at hl 1 rfl) ?_)
  refine iW_put (ix := 24) (k := 2) (ty := (.object "BundleLinks$Links")) C hN rfl (by decide) (lw_gm 306 (by decide +kernel) rfl) rfl (by decide +kernel) rfl rfl (by first | decide | (simp only [fSet_len, List.length_set]; decide)) (by decide +kernel) ?_
  refine iW_aload_n (k := 0) C (by decide +kernel) h0l (iW_aload_n (k := 2) C (by decide +kernel) (lv_at hl 2 rfl) ?_)
  refine iW_put (ix := 28) (k := 3) (ty := (.object "BundleLinks$Buckets")) C hN rfl (by decide) (lw_gm 307 (by decide +kernel) rfl) rfl (by decide +kernel) rfl rfl (by first | decide | (simp only [fSet_len, List.length_set]; decide)) (by decide +kernel) ?_
  refine iW_aload_n (k := 0) C (by decide +kernel) h0l (iW_aload_n (k := 3) C (by decide +kernel) (lv_at hl 3 rfl) ?_)
  refine iW_put (ix := 32) (k := 4) (ty := (.object "BundleLinks$Flows")) C hN rfl (by decide) (lw_gm 308 (by decide +kernel) rfl) rfl (by decide +kernel) rfl rfl (by first | decide | (simp only [fSet_len, List.length_set]; decide)) (by decide +kernel) ?_
  exact ret _ _ _ ⟨u0, rfl⟩ (by decide +kernel)
def fz6 : List Value := [.null, .null, .null, .null, .null, .null]
theorem fz6_ok : ∀ j, j < 6 → defaultValue (tyX6 j) = vp_V fz6 j := by decide +kernel
def Sh6 (cs : Cs) (h0 : Nat) (w : va_W) : Prop := ∃ (q3 : Nat) (q0 : Nat) (q1 : Nat) (q2 : Nat) (q5 : Nat) (q4 : Nat) (w3 : va_W) (w0 : va_W) (w1 : va_W) (w2 : va_W) (w5 : va_W) (w4 : va_W), Sh3 cs q3 w3 ∧ Sh0 cs q0 w0 ∧ Sh1 cs q1 w1 ∧ Sh2 cs q2 w2 ∧ Sh5 q3 q0 q1 q2 cs q5 w5 ∧ Sh4 q3 q0 q1 cs q4 w4 ∧ w = (h0, .inr (6, ((((((fz6.set 0 (.ref q3)).set 1 (.ref q0)).set 2 (.ref q1)).set 3 (.ref q2)).set 4 (.ref q5)).set 5 (.ref q4)))) :: (((((([] ++ w3) ++ w0) ++ w1) ++ w2) ++ w5) ++ w4)
set_option maxRecDepth 20000 in
set_option maxHeartbeats 4000000 in
theorem iX6 : iMet yX6_init cX6_init 1 6 fz6 2 46 5889 [] (Sh6) := by
  refine iMet_of (by decide +kernel) rfl (Nat.le_of_ble_eq_true rfl) ?_
  intro X ls h0 C hN hL hl hR ret
  have C : iC X RX6 cX6_init 2 := C
  have h0l : ls[0]? = some (.val (.ref h0)) := lv_at hl 0 rfl
  refine iW_aload_n (k := 0) C (by decide +kernel) h0l (iW_obj (ix := 1) C hL (lw_gm 56 (by decide +kernel) rfl) (by decide +kernel) ?_)
  refine iW_aload_n (k := 0) C (by decide +kernel) h0l (iW_new (ix := 7) (cn := 3) (fz := fz3) (ty := tyX3) C rfl tyX3_ok fz3_ok ⟨lw_gm 59 (by decide +kernel) rfl, lw_gm 60 (by decide +kernel) rfl, lw_gm 42 (by decide +kernel) rfl⟩ (iR_le hR (by decide) (by decide)) (by decide +kernel) (fun q3 => iW_dup C (by decide +kernel) ?_))
  refine iW_call (ix := 9) (n := 0) C hL (iX3) (by decide) (lw_gm 63 (by decide +kernel) rfl) (lw_gm 42 (by decide +kernel) rfl) (lw_gm 62 (by decide +kernel) rfl) rfl ⟨by decide +kernel, by decide +kernel, by decide +kernel⟩ rfl (Or.inr (fun U h => h.2.1)) (Nat.le_of_ble_eq_true rfl) (iR_le hR (by decide) (by decide)) rfl (by decide +kernel) (fun w3 hw3 => ?_)
  refine iW_put (ix := 10) (k := 0) (ty := (.object "BundleLinks$Links")) C hN rfl (by decide) (lw_gm 341 (by decide +kernel) rfl) rfl (by decide +kernel) rfl rfl (by first | decide | (simp only [fSet_len, List.length_set]; decide)) (by decide +kernel) ?_
  refine iW_aload_n (k := 0) C (by decide +kernel) h0l (iW_new (ix := 16) (cn := 0) (fz := fz0) (ty := tyX0) C rfl tyX0_ok fz0_ok ⟨lw_gm 117 (by decide +kernel) rfl, lw_gm 118 (by decide +kernel) rfl, lw_gm 43 (by decide +kernel) rfl⟩ (iR_le hR (by decide) (by decide)) (by decide +kernel) (fun q0 => iW_dup C (by decide +kernel) ?_))
  refine iW_call (ix := 18) (n := 0) C hL (iX0) (by decide) (lw_gm 121 (by decide +kernel) rfl) (lw_gm 43 (by decide +kernel) rfl) (lw_gm 120 (by decide +kernel) rfl) rfl ⟨by decide +kernel, by decide +kernel, by decide +kernel⟩ rfl (Or.inl (lw_gm 119 (by decide +kernel) rfl)) (Nat.le_of_ble_eq_true rfl) (iR_le hR (by decide) (by decide)) rfl (by decide +kernel) (fun w0 hw0 => ?_)
  refine iW_put (ix := 19) (k := 1) (ty := (.object "BundleLinks$Buckets")) C hN rfl (by decide) (lw_gm 342 (by decide +kernel) rfl) rfl (by decide +kernel) rfl rfl (by first | decide | (simp only [fSet_len, List.length_set]; decide)) (by decide +kernel) ?_
  refine iW_aload_n (k := 0) C (by decide +kernel) h0l (iW_new (ix := 23) (cn := 1) (fz := fz1) (ty := tyX1) C rfl tyX1_ok fz1_ok ⟨lw_gm 150 (by decide +kernel) rfl, lw_gm 151 (by decide +kernel) rfl, lw_gm 44 (by decide +kernel) rfl⟩ (iR_le hR (by decide) (by decide)) (by decide +kernel) (fun q1 => iW_dup C (by decide +kernel) ?_))
  refine iW_call (ix := 25) (n := 0) C hL (iX1) (by decide) (lw_gm 154 (by decide +kernel) rfl) (lw_gm 44 (by decide +kernel) rfl) (lw_gm 153 (by decide +kernel) rfl) rfl ⟨by decide +kernel, by decide +kernel, by decide +kernel⟩ rfl (Or.inr (fun U h => h.2.2.1)) (Nat.le_of_ble_eq_true rfl) (iR_le hR (by decide) (by decide)) rfl (by decide +kernel) (fun w1 hw1 => ?_)
  refine iW_put (ix := 26) (k := 2) (ty := (.object "BundleLinks$Flows")) C hN rfl (by decide) (lw_gm 343 (by decide +kernel) rfl) rfl (by decide +kernel) rfl rfl (by first | decide | (simp only [fSet_len, List.length_set]; decide)) (by decide +kernel) ?_
  refine iW_aload_n (k := 0) C (by decide +kernel) h0l (iW_new (ix := 30) (cn := 2) (fz := fz2) (ty := tyX2) C rfl tyX2_ok fz2_ok ⟨lw_gm 200 (by decide +kernel) rfl, lw_gm 201 (by decide +kernel) rfl, lw_gm 45 (by decide +kernel) rfl⟩ (iR_le hR (by decide) (by decide)) (by decide +kernel) (fun q2 => iW_dup C (by decide +kernel) ?_))
  refine iW_call (ix := 32) (n := 0) C hL (iX2) (by decide) (lw_gm 204 (by decide +kernel) rfl) (lw_gm 45 (by decide +kernel) rfl) (lw_gm 203 (by decide +kernel) rfl) rfl ⟨by decide +kernel, by decide +kernel, by decide +kernel⟩ rfl (Or.inr (fun U h => h.2.2.2)) (Nat.le_of_ble_eq_true rfl) (iR_le hR (by decide) (by decide)) rfl (by decide +kernel) (fun w2 hw2 => ?_)
  refine iW_put (ix := 33) (k := 3) (ty := (.object "BundleLinks$Letters")) C hN rfl (by decide) (lw_gm 344 (by decide +kernel) rfl) rfl (by decide +kernel) rfl rfl (by first | decide | (simp only [fSet_len, List.length_set]; decide)) (by decide +kernel) ?_
  refine iW_aload_n (k := 0) C (by decide +kernel) h0l (iW_new (ix := 37) (cn := 5) (fz := fz5) (ty := tyX5) C rfl tyX5_ok fz5_ok ⟨lw_gm 266 (by decide +kernel) rfl, lw_gm 267 (by decide +kernel) rfl, lw_gm 46 (by decide +kernel) rfl⟩ (iR_le hR (by decide) (by decide)) (by decide +kernel) (fun q5 => iW_dup C (by decide +kernel) ?_))
  refine iW_aload_n (k := 0) C (by decide +kernel) h0l (iW_get (ix := 10) (k := 0) C rfl (by decide) (lw_gm 341 (by decide +kernel) rfl) rfl rfl (by decide +kernel) ?_)
  refine iW_aload_n (k := 0) C (by decide +kernel) h0l (iW_get (ix := 19) (k := 1) C rfl (by decide) (lw_gm 342 (by decide +kernel) rfl) rfl rfl (by decide +kernel) ?_)
  refine iW_aload_n (k := 0) C (by decide +kernel) h0l (iW_get (ix := 26) (k := 2) C rfl (by decide) (lw_gm 343 (by decide +kernel) rfl) rfl rfl (by decide +kernel) ?_)
  refine iW_aload_n (k := 0) C (by decide +kernel) h0l (iW_get (ix := 33) (k := 3) C rfl (by decide) (lw_gm 344 (by decide +kernel) rfl) rfl rfl (by decide +kernel) ?_)
  refine iW_call (ix := 39) (n := 4) C hL (iX5 q3 q0 q1 q2) (by decide) (lw_gm 270 (by decide +kernel) rfl) (lw_gm 46 (by decide +kernel) rfl) (lw_gm 269 (by decide +kernel) rfl) rfl ⟨by decide +kernel, by decide +kernel, by decide +kernel⟩ rfl (Or.inl (lw_gm 268 (by decide +kernel) rfl)) (Nat.le_of_ble_eq_true rfl) (iR_le hR (by decide) (by decide)) rfl (by decide +kernel) (fun w5 hw5 => ?_)
  refine iW_put (ix := 42) (k := 4) (ty := (.object "BundleLinks$Traffic")) C hN rfl (by decide) (lw_gm 345 (by decide +kernel) rfl) rfl (by decide +kernel) rfl rfl (by first | decide | (simp only [fSet_len, List.length_set]; decide)) (by decide +kernel) ?_
  refine iW_aload_n (k := 0) C (by decide +kernel) h0l (iW_new (ix := 46) (cn := 4) (fz := fz4) (ty := tyX4) C rfl tyX4_ok fz4_ok ⟨lw_gm 296 (by decide +kernel) rfl, lw_gm 297 (by decide +kernel) rfl, lw_gm 47 (by decide +kernel) rfl⟩ (iR_le hR (by decide) (by decide)) (by decide +kernel) (fun q4 => iW_dup C (by decide +kernel) ?_))
  refine iW_aload_n (k := 0) C (by decide +kernel) h0l (iW_get (ix := 10) (k := 0) C rfl (by decide) (lw_gm 341 (by decide +kernel) rfl) rfl rfl (by decide +kernel) ?_)
  refine iW_aload_n (k := 0) C (by decide +kernel) h0l (iW_get (ix := 19) (k := 1) C rfl (by decide) (lw_gm 342 (by decide +kernel) rfl) rfl rfl (by decide +kernel) ?_)
  refine iW_aload_n (k := 0) C (by decide +kernel) h0l (iW_get (ix := 26) (k := 2) C rfl (by decide) (lw_gm 343 (by decide +kernel) rfl) rfl rfl (by decide +kernel) ?_)
  refine iW_call (ix := 48) (n := 3) C hL (iX4 q3 q0 q1) (by decide) (lw_gm 300 (by decide +kernel) rfl) (lw_gm 47 (by decide +kernel) rfl) (lw_gm 299 (by decide +kernel) rfl) rfl ⟨by decide +kernel, by decide +kernel, by decide +kernel⟩ rfl (Or.inl (lw_gm 298 (by decide +kernel) rfl)) (Nat.le_of_ble_eq_true rfl) (iR_le hR (by decide) (by decide)) rfl (by decide +kernel) (fun w4 hw4 => ?_)
  refine iW_put (ix := 51) (k := 5) (ty := (.object "BundleLinks$Planner")) C hN rfl (by decide) (lw_gm 346 (by decide +kernel) rfl) rfl (by decide +kernel) rfl rfl (by first | decide | (simp only [fSet_len, List.length_set]; decide)) (by decide +kernel) ?_
  exact ret _ _ _ ⟨q3, q0, q1, q2, q5, q4, w3, w0, w1, w2, w5, w4, hw3, hw0, hw1, hw2, hw5, hw4, rfl⟩ (by decide +kernel)
def fz7 : List Value := [.int (Int32.ofInt 0), .int (Int32.ofInt 0), .null, .null, .null, .null, .null, .null, .null, .null, .int (Int32.ofInt 0), .null, .null, .int (Int32.ofInt 0), .int (Int32.ofInt 0), .int (Int32.ofInt 0), .int (Int32.ofInt 0), .null, .null, .null, .null, .null, .null, .null, .null, .null, .null, .null, .int (Int32.ofInt 0), .int (Int32.ofInt 0), .null, .int (Int32.ofInt 0), .null, .null, .null, .null]
theorem fz7_ok : ∀ j, j < 36 → defaultValue (tyX7 j) = vp_V fz7 j := by decide +kernel
def sp7_0 : List Spe := [(4, 1, .iconst 4, false, 7, 2, 4), (11, 1, .iconst 4, false, 13, 3, 4), (18, 1, .iconst 4, true, 16, 4, 4), (25, 1, .iconst 4, false, 20, 5, 4), (32, 2, .bipush 8, false, 23, 6, 8), (40, 2, .bipush 8, false, 26, 7, 8), (48, 2, .bipush 8, true, 29, 8, 8), (56, 2, .bipush 8, false, 32, 9, 8), (64, 2, .bipush 16, false, 35, 11, 16), (72, 2, .bipush 16, false, 38, 12, 16)]
theorem sp7_0_ok : spsOk RX7 cX7_init TX7 36 4 sp7_0 80 := ⟨rfl, ⟨by decide +kernel, by decide +kernel, by decide, by decide +kernel, by decide +kernel, by decide, lw_gm 640 (by decide +kernel) rfl, rfl, by decide +kernel, by decide⟩, ⟨rfl, ⟨by decide +kernel, by decide +kernel, by decide, by decide +kernel, by decide +kernel, by decide, lw_gm 641 (by decide +kernel) rfl, rfl, by decide +kernel, by decide⟩, ⟨rfl, ⟨by decide +kernel, by decide +kernel, by decide, by decide +kernel, by decide +kernel, by decide, lw_gm 642 (by decide +kernel) rfl, rfl, by decide +kernel, by decide⟩, ⟨rfl, ⟨by decide +kernel, by decide +kernel, by decide, by decide +kernel, by decide +kernel, by decide, lw_gm 643 (by decide +kernel) rfl, rfl, by decide +kernel, by decide⟩, ⟨rfl, ⟨by decide +kernel, by decide +kernel, by decide, by decide +kernel, by decide +kernel, by decide, lw_gm 644 (by decide +kernel) rfl, rfl, by decide +kernel, by decide⟩, ⟨rfl, ⟨by decide +kernel, by decide +kernel, by decide, by decide +kernel, by decide +kernel, by decide, lw_gm 645 (by decide +kernel) rfl, rfl, by decide +kernel, by decide⟩, ⟨rfl, ⟨by decide +kernel, by decide +kernel, by decide, by decide +kernel, by decide +kernel, by decide, lw_gm 646 (by decide +kernel) rfl, rfl, by decide +kernel, by decide⟩, ⟨rfl, ⟨by decide +kernel, by decide +kernel, by decide, by decide +kernel, by decide +kernel, by decide, lw_gm 647 (by decide +kernel) rfl, rfl, by decide +kernel, by decide⟩, ⟨rfl, ⟨by decide +kernel, by decide +kernel, by decide, by decide +kernel, by decide +kernel, by decide, lw_gm 649 (by decide +kernel) rfl, rfl, by decide +kernel, by decide⟩, ⟨rfl, ⟨by decide +kernel, by decide +kernel, by decide, by decide +kernel, by decide +kernel, by decide, lw_gm 650 (by decide +kernel) rfl, rfl, by decide +kernel, by decide⟩, rfl⟩⟩⟩⟩⟩⟩⟩⟩⟩⟩
def sp7_1 : List Spe := [(85, 3, .sipush 400, false, 45, 17, 400), (94, 3, .sipush 400, false, 48, 18, 400), (103, 3, .sipush 400, false, 51, 19, 400), (112, 3, .sipush 400, false, 54, 20, 400), (121, 3, .sipush 400, false, 57, 21, 400), (130, 3, .sipush 400, false, 60, 22, 400), (139, 3, .sipush 400, false, 63, 23, 400), (148, 3, .sipush 400, false, 66, 24, 400), (157, 3, .sipush 400, false, 69, 25, 400), (166, 3, .sipush 400, false, 72, 26, 400), (175, 3, .sipush 400, false, 75, 27, 400), (184, 3, .sipush 400, false, 78, 30, 400), (193, 2, .bipush 8, false, 81, 32, 8), (201, 1, .iconst 4, false, 84, 33, 4), (208, 2, .bipush 8, false, 87, 34, 8), (216, 2, .bipush 8, false, 90, 35, 8)]
theorem sp7_1_ok : spsOk RX7 cX7_init TX7 36 85 sp7_1 224 := ⟨rfl, ⟨by decide +kernel, by decide +kernel, by decide, by decide +kernel, by decide +kernel, by decide, lw_gm 655 (by decide +kernel) rfl, rfl, by decide +kernel, by decide⟩, ⟨rfl, ⟨by decide +kernel, by decide +kernel, by decide, by decide +kernel, by decide +kernel, by decide, lw_gm 656 (by decide +kernel) rfl, rfl, by decide +kernel, by decide⟩, ⟨rfl, ⟨by decide +kernel, by decide +kernel, by decide, by decide +kernel, by decide +kernel, by decide, lw_gm 657 (by decide +kernel) rfl, rfl, by decide +kernel, by decide⟩, ⟨rfl, ⟨by decide +kernel, by decide +kernel, by decide, by decide +kernel, by decide +kernel, by decide, lw_gm 658 (by decide +kernel) rfl, rfl, by decide +kernel, by decide⟩, ⟨rfl, ⟨by decide +kernel, by decide +kernel, by decide, by decide +kernel, by decide +kernel, by decide, lw_gm 659 (by decide +kernel) rfl, rfl, by decide +kernel, by decide⟩, ⟨rfl, ⟨by decide +kernel, by decide +kernel, by decide, by decide +kernel, by decide +kernel, by decide, lw_gm 660 (by decide +kernel) rfl, rfl, by decide +kernel, by decide⟩, ⟨rfl, ⟨by decide +kernel, by decide +kernel, by decide, by decide +kernel, by decide +kernel, by decide, lw_gm 661 (by decide +kernel) rfl, rfl, by decide +kernel, by decide⟩, ⟨rfl, ⟨by decide +kernel, by decide +kernel, by decide, by decide +kernel, by decide +kernel, by decide, lw_gm 662 (by decide +kernel) rfl, rfl, by decide +kernel, by decide⟩, ⟨rfl, ⟨by decide +kernel, by decide +kernel, by decide, by decide +kernel, by decide +kernel, by decide, lw_gm 663 (by decide +kernel) rfl, rfl, by decide +kernel, by decide⟩, ⟨rfl, ⟨by decide +kernel, by decide +kernel, by decide, by decide +kernel, by decide +kernel, by decide, lw_gm 664 (by decide +kernel) rfl, rfl, by decide +kernel, by decide⟩, ⟨rfl, ⟨by decide +kernel, by decide +kernel, by decide, by decide +kernel, by decide +kernel, by decide, lw_gm 665 (by decide +kernel) rfl, rfl, by decide +kernel, by decide⟩, ⟨rfl, ⟨by decide +kernel, by decide +kernel, by decide, by decide +kernel, by decide +kernel, by decide, lw_gm 668 (by decide +kernel) rfl, rfl, by decide +kernel, by decide⟩, ⟨rfl, ⟨by decide +kernel, by decide +kernel, by decide, by decide +kernel, by decide +kernel, by decide, lw_gm 670 (by decide +kernel) rfl, rfl, by decide +kernel, by decide⟩, ⟨rfl, ⟨by decide +kernel, by decide +kernel, by decide, by decide +kernel, by decide +kernel, by decide, lw_gm 671 (by decide +kernel) rfl, rfl, by decide +kernel, by decide⟩, ⟨rfl, ⟨by decide +kernel, by decide +kernel, by decide, by decide +kernel, by decide +kernel, by decide, lw_gm 672 (by decide +kernel) rfl, rfl, by decide +kernel, by decide⟩, ⟨rfl, ⟨by decide +kernel, by decide +kernel, by decide, by decide +kernel, by decide +kernel, by decide, lw_gm 673 (by decide +kernel) rfl, rfl, by decide +kernel, by decide⟩, rfl⟩⟩⟩⟩⟩⟩⟩⟩⟩⟩⟩⟩⟩⟩⟩⟩
def Sh7 (cs : Cs) (h0 : Nat) (w : va_W) : Prop := ∃ (u0 u1 : Nat → Nat), w = (((h0, .inr (7, (fSet ((fSet fz7 sp7_0 u0).set 13 (.int (Int32.ofInt 1))) sp7_1 u1))) :: (([] ++ aLst cs sp7_0 u0) ++ aLst cs sp7_1 u1)).set 5 ((u0 4), A6 cs 8)).set 6 ((u0 5), A6 cs 8)
set_option maxRecDepth 20000 in
set_option maxHeartbeats 4000000 in
theorem fe7 (u0 u1 : Nat → Nat) : (fSet ((fSet fz7 sp7_0 u0).set 13 (.int (Int32.ofInt 1))) sp7_1 u1) = [.int (Int32.ofInt 0), .int (Int32.ofInt 0), .ref (u0 0), .ref (u0 1), .ref (u0 2), .ref (u0 3), .ref (u0 4), .ref (u0 5), .ref (u0 6), .ref (u0 7), .int (Int32.ofInt 0), .ref (u0 8), .ref (u0 9), .int (Int32.ofInt 1), .int (Int32.ofInt 0), .int (Int32.ofInt 0), .int (Int32.ofInt 0), .ref (u1 0), .ref (u1 1), .ref (u1 2), .ref (u1 3), .ref (u1 4), .ref (u1 5), .ref (u1 6), .ref (u1 7), .ref (u1 8), .ref (u1 9), .ref (u1 10), .int (Int32.ofInt 0), .int (Int32.ofInt 0), .ref (u1 11), .int (Int32.ofInt 0), .ref (u1 12), .ref (u1 13), .ref (u1 14), .ref (u1 15)] := by simp only [fSet, fz7, sp7_0, sp7_1, List.set_cons_zero, List.set_cons_succ, Nat.zero_add, Nat.reduceAdd]
set_option maxRecDepth 20000 in
theorem lp7_a (u0 u1 : Nat → Nat) : ((fSet ((fSet fz7 sp7_0 u0).set 13 (.int (Int32.ofInt 1))) sp7_1 u1))[6]? = some (.ref (u0 4)) := by rw [fe7]; rfl
set_option maxRecDepth 20000 in
theorem lp7_b (u0 u1 : Nat → Nat) : ((fSet ((fSet fz7 sp7_0 u0).set 13 (.int (Int32.ofInt 1))) sp7_1 u1))[7]? = some (.ref (u0 5)) := by rw [fe7]; rfl
set_option maxRecDepth 20000 in
theorem lp7_qa (cs : Cs) (h0 : Nat) (u0 u1 : Nat → Nat) : (((h0, .inr (7, (fSet ((fSet fz7 sp7_0 u0).set 13 (.int (Int32.ofInt 1))) sp7_1 u1))) :: (([] ++ aLst cs sp7_0 u0) ++ aLst cs sp7_1 u1)) : va_W)[5]? = some ((u0 4), aZ cs false 8) := rfl
set_option maxRecDepth 20000 in
theorem lp7_qb (cs : Cs) (h0 : Nat) (u0 u1 : Nat → Nat) : (((h0, .inr (7, (fSet ((fSet fz7 sp7_0 u0).set 13 (.int (Int32.ofInt 1))) sp7_1 u1))) :: (([] ++ aLst cs sp7_0 u0) ++ aLst cs sp7_1 u1)) : va_W)[6]? = some ((u0 5), aZ cs false 8) := rfl
set_option maxRecDepth 20000 in
set_option maxHeartbeats 4000000 in
theorem iX7 : iMet yX7_init cX7_init 2 7 fz7 1 26 4908 [] (Sh7) := by
  refine iMet_of (by decide +kernel) rfl (Nat.le_of_ble_eq_true rfl) ?_
  intro X ls h0 C hN hL hl hR ret
  have C : iC X RX7 cX7_init 1 := C
  have h0l : ls[0]? = some (.val (.ref h0)) := lv_at hl 0 rfl
  refine iW_aload_n (k := 0) C (by decide +kernel) h0l (iW_obj (ix := 1) C hL (lw_gm 637 (by decide +kernel) rfl) (by decide +kernel) ?_)
  refine iW_ars (mc := 10) (ms := 80) C hN rfl h0l sp7_0_ok (by first | rfl | (simp only [fSet_len, List.length_set]; rfl)) (iR_le hR (by decide) (by decide)) rfl rfl (fun u0 => ?_)
  refine iW_aload_n (k := 0) C (by decide +kernel) h0l (iW_push (ins := .iconst 1) (a := 1) (v := 1) C (by decide +kernel) (by decide) ?_)
  refine iW_put (ix := 41) (k := 13) (ty := .int) C hN rfl (by decide) (lw_gm 651 (by decide +kernel) rfl) rfl (by decide +kernel) rfl rfl (by first | decide | (simp only [fSet_len, List.length_set]; decide)) (by decide +kernel) ?_
  refine iW_ars (mc := 26) (ms := 4908) C hN rfl h0l sp7_1_ok (by first | rfl | (simp only [fSet_len, List.length_set]; rfl)) (iR_le hR (by decide) (by decide)) rfl rfl (fun u1 => ?_)
  refine iW_push (ins := .iconst 0) (a := 1) (v := 0) C (by decide +kernel) (by decide) (iW_ist C (by decide +kernel) hl (fun ls1 hl1 => ?_))
  exact iW_loop0 (ws := (h0, .inr (7, (fSet ((fSet fz7 sp7_0 u0).set 13 (.int (Int32.ofInt 1))) sp7_1 u1))) :: (([] ++ aLst (iS X) sp7_0 u0) ++ aLst (iS X) sp7_1 u1)) (p0 := 226) (ia := 23) (ib := 26) (ka := 6) (kb := 7) (qa := 5) (qb := 6) (a := (u0 4)) (b := (u0 5)) (cells := 26) (slots := 4908) C rfl ⟨by decide +kernel, by decide +kernel, by decide +kernel, by decide +kernel, by decide +kernel, by decide +kernel, by decide +kernel, by decide +kernel, by decide +kernel, by decide +kernel, by decide +kernel, by decide +kernel, by decide +kernel, by decide +kernel, by decide +kernel⟩ (by decide) (by decide) (lw_gm 644 (by decide +kernel) rfl) (lw_gm 645 (by decide +kernel) rfl) rfl (lp7_a  u0 u1) (lp7_b  u0 u1) (lp7_qa (iS X) h0  u0 u1) (lp7_qb (iS X) h0  u0 u1) (by decide) (by decide) (by decide) (fun ls2 => ret _ _ _ ⟨u0, u1, rfl⟩ (by decide +kernel)) ls1 hl1
