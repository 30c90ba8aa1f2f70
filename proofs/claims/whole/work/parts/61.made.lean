/-! The cells that the two constructors have made, one by one, and that they are the world of the start: by program -/
set_option maxRecDepth 20000 in
set_option maxHeartbeats 4000000 in
theorem we3 {cs : Cs} {h0 : Nat} {w : va_W} (h : Sh3 cs h0 w) : ∃ (u0 u1 u2 : Nat → Nat), w = [(h0, .inr (3, [.int (Int32.ofInt 0), .ref (u0 0), .ref (u0 1), .ref (u0 2), .ref (u1 0), .ref (u2 0), .ref (u2 1), .ref (u2 2), .ref (u2 3)])), (u0 0, aZ cs false 4), (u0 1, aZ cs false 4), (u0 2, aZ cs true 4), (u1 0, .inl (cs.2.2, 4, .inr (.inr (.inr (.inr (fun j => some (u1 (j + 1)))))))), (u1 1, aZ cs false 400), (u1 2, aZ cs false 400), (u1 3, aZ cs false 400), (u1 4, aZ cs false 400), (u2 0, aZ cs false 4), (u2 1, aZ cs false 4), (u2 2, aZ cs false 4), (u2 3, aZ cs false 4)] := by
  obtain ⟨u0, u1, u2, rfl⟩ := h
  refine ⟨u0, u1, u2, ?_⟩
  rw [fe3]
  simp only [aLst, rowsW, sp3_0, sp3_1, List.nil_append, List.cons_append, List.append_nil, List.set_cons_zero, List.set_cons_succ, Nat.zero_add, Nat.reduceAdd]
set_option maxRecDepth 20000 in
set_option maxHeartbeats 4000000 in
theorem we0 {cs : Cs} {h0 : Nat} {w : va_W} (h : Sh0 cs h0 w) : ∃ (u0 : Nat → Nat), w = [(h0, .inr (0, [.ref (u0 0), .ref (u0 1), .ref (u0 2), .ref (u0 3), .ref (u0 4)])), (u0 0, A6 cs 8), (u0 1, A6 cs 8), (u0 2, aZ cs true 8), (u0 3, aZ cs false 8), (u0 4, aZ cs false 8)] := by
  obtain ⟨u0, rfl⟩ := h
  refine ⟨u0, ?_⟩
  rw [fe0]
  simp only [aLst, rowsW, sp0_0, List.nil_append, List.cons_append, List.append_nil, List.set_cons_zero, List.set_cons_succ, Nat.zero_add, Nat.reduceAdd]
set_option maxRecDepth 20000 in
set_option maxHeartbeats 4000000 in
theorem we1 {cs : Cs} {h0 : Nat} {w : va_W} (h : Sh1 cs h0 w) : ∃ (u0 : Nat → Nat), w = [(h0, .inr (1, [.int (Int32.ofInt 0), .int (Int32.ofInt 1), .int (Int32.ofInt 0), .ref (u0 0), .ref (u0 1), .ref (u0 2), .ref (u0 3), .ref (u0 4), .ref (u0 5), .ref (u0 6)])), (u0 0, aZ cs false 16), (u0 1, aZ cs false 16), (u0 2, aZ cs false 16), (u0 3, aZ cs false 16), (u0 4, aZ cs false 16), (u0 5, aZ cs false 16), (u0 6, aZ cs true 16)] := by
  obtain ⟨u0, rfl⟩ := h
  refine ⟨u0, ?_⟩
  rw [fe1]
  simp only [aLst, rowsW, sp1_0, List.nil_append, List.cons_append, List.append_nil, List.set_cons_zero, List.set_cons_succ, Nat.zero_add, Nat.reduceAdd]
set_option maxRecDepth 20000 in
set_option maxHeartbeats 4000000 in
theorem we2 {cs : Cs} {h0 : Nat} {w : va_W} (h : Sh2 cs h0 w) : ∃ (u0 : Nat → Nat), w = [(h0, .inr (2, [.int (Int32.ofInt 0), .ref (u0 0), .ref (u0 1), .ref (u0 2), .ref (u0 3), .ref (u0 4), .ref (u0 5), .ref (u0 6), .ref (u0 7), .ref (u0 8), .ref (u0 9), .ref (u0 10)])), (u0 0, aZ cs false 400), (u0 1, aZ cs false 400), (u0 2, aZ cs false 400), (u0 3, aZ cs false 400), (u0 4, aZ cs false 400), (u0 5, aZ cs false 400), (u0 6, aZ cs false 400), (u0 7, aZ cs false 400), (u0 8, aZ cs false 400), (u0 9, aZ cs false 400), (u0 10, aZ cs false 6)] := by
  obtain ⟨u0, rfl⟩ := h
  refine ⟨u0, ?_⟩
  rw [fe2]
  simp only [aLst, rowsW, sp2_0, List.nil_append, List.cons_append, List.append_nil, List.set_cons_zero, List.set_cons_succ, Nat.zero_add, Nat.reduceAdd]
set_option maxRecDepth 20000 in
set_option maxHeartbeats 4000000 in
theorem we5 {cs : Cs} {h0 : Nat} {w : va_W} {a1 : Nat} {a2 : Nat} {a3 : Nat} {a4 : Nat} (h : Sh5 a1 a2 a3 a4 cs h0 w) : ∃ (u0 : Nat → Nat), w = [(h0, .inr (5, [.int (Int32.ofInt 0), .int (Int32.ofInt 0), .ref a1, .ref a2, .ref a3, .ref a4, .ref (u0 0)])), (u0 0, aZ cs true 16)] := by
  obtain ⟨u0, rfl⟩ := h
  refine ⟨u0, ?_⟩
  rw [fe5]
  simp only [aLst, rowsW, sp5_0, List.nil_append, List.cons_append, List.append_nil, List.set_cons_zero, List.set_cons_succ, Nat.zero_add, Nat.reduceAdd]
set_option maxRecDepth 20000 in
set_option maxHeartbeats 4000000 in
theorem we4 {cs : Cs} {h0 : Nat} {w : va_W} {a1 : Nat} {a2 : Nat} {a3 : Nat} (h : Sh4 a1 a2 a3 cs h0 w) : ∃ (u0 : Nat → Nat), w = [(h0, .inr (4, [.int (Int32.ofInt 0), .ref (u0 0), .ref a1, .ref a2, .ref a3, .ref (u0 1), .ref (u0 2), .ref (u0 3), .int (Int32.ofInt 0), .int (Int32.ofInt 0), .int (Int32.ofInt 0), .int (Int32.ofInt 0)])), (u0 0, aZ cs false 8), (u0 1, aZ cs false 8), (u0 2, aZ cs false 4), (u0 3, aZ cs false 8)] := by
  obtain ⟨u0, rfl⟩ := h
  refine ⟨u0, ?_⟩
  rw [fe4]
  simp only [aLst, rowsW, sp4_0, List.nil_append, List.cons_append, List.append_nil, List.set_cons_zero, List.set_cons_succ, Nat.zero_add, Nat.reduceAdd]
set_option maxRecDepth 20000 in
set_option maxHeartbeats 4000000 in
theorem we7 {cs : Cs} {h0 : Nat} {w : va_W} (h : Sh7 cs h0 w) : ∃ (u0 u1 : Nat → Nat), w = [(h0, .inr (7, [.int (Int32.ofInt 0), .int (Int32.ofInt 0), .ref (u0 0), .ref (u0 1), .ref (u0 2), .ref (u0 3), .ref (u0 4), .ref (u0 5), .ref (u0 6), .ref (u0 7), .int (Int32.ofInt 0), .ref (u0 8), .ref (u0 9), .int (Int32.ofInt 1), .int (Int32.ofInt 0), .int (Int32.ofInt 0), .int (Int32.ofInt 0), .ref (u1 0), .ref (u1 1), .ref (u1 2), .ref (u1 3), .ref (u1 4), .ref (u1 5), .ref (u1 6), .ref (u1 7), .ref (u1 8), .ref (u1 9), .ref (u1 10), .int (Int32.ofInt 0), .int (Int32.ofInt 0), .ref (u1 11), .int (Int32.ofInt 0), .ref (u1 12), .ref (u1 13), .ref (u1 14), .ref (u1 15)])), (u0 0, aZ cs false 4), (u0 1, aZ cs false 4), (u0 2, aZ cs true 4), (u0 3, aZ cs false 4), (u0 4, A6 cs 8), (u0 5, A6 cs 8), (u0 6, aZ cs true 8), (u0 7, aZ cs false 8), (u0 8, aZ cs false 16), (u0 9, aZ cs false 16), (u1 0, aZ cs false 400), (u1 1, aZ cs false 400), (u1 2, aZ cs false 400), (u1 3, aZ cs false 400), (u1 4, aZ cs false 400), (u1 5, aZ cs false 400), (u1 6, aZ cs false 400), (u1 7, aZ cs false 400), (u1 8, aZ cs false 400), (u1 9, aZ cs false 400), (u1 10, aZ cs false 400), (u1 11, aZ cs false 400), (u1 12, aZ cs false 8), (u1 13, aZ cs false 4), (u1 14, aZ cs false 8), (u1 15, aZ cs false 8)] := by
  obtain ⟨u0, u1, rfl⟩ := h
  refine ⟨u0, u1, ?_⟩
  rw [fe7]
  simp only [aLst, rowsW, sp7_0, sp7_1, List.nil_append, List.cons_append, List.append_nil, List.set_cons_zero, List.set_cons_succ, Nat.zero_add, Nat.reduceAdd]
def nthN : List Nat → Nat → Nat
  | [], _ => 0
  | a :: _, 0 => a
  | _ :: l, n + 1 => nthN l n
def adL (q6 q3 q0 q1 q2 q5 q4 q7 b : Nat) (v3_0 v3_1 v3_2 v0_0 v1_0 v2_0 v5_0 v4_0 v7_0 v7_1 : Nat → Nat) : List Nat := [q6, q3, q0, q1, q2, q5, q4, v3_0 0, v3_0 1, v3_0 2, v3_1 0, v3_1 1, v3_1 2, v3_1 3, v3_1 4, v3_2 0, v3_2 1, v3_2 2, v3_2 3, v0_0 0, v0_0 1, v0_0 2, v0_0 3, v0_0 4, v1_0 0, v1_0 1, v1_0 2, v1_0 3, v1_0 4, v1_0 5, v1_0 6, v2_0 0, v2_0 1, v2_0 2, v2_0 3, v2_0 4, v2_0 5, v2_0 6, v2_0 7, v2_0 8, v2_0 9, v2_0 10, v5_0 0, v4_0 0, v4_0 1, v4_0 2, v4_0 3, q7, v7_0 0, v7_0 1, v7_0 2, v7_0 3, v7_0 4, v7_0 5, v7_0 6, v7_0 7, v7_0 8, v7_0 9, v7_1 0, v7_1 1, v7_1 2, v7_1 3, v7_1 4, v7_1 5, v7_1 6, v7_1 7, v7_1 8, v7_1 9, v7_1 10, v7_1 11, v7_1 12, v7_1 13, v7_1 14, v7_1 15, b]
def wsL (cs : Cs) (q6 q3 q0 q1 q2 q5 q4 q7 b : Nat) (v3_0 v3_1 v3_2 v0_0 v1_0 v2_0 v5_0 v4_0 v7_0 v7_1 : Nat → Nat) : va_W := [(q6, .inr (6, [.ref q3, .ref q0, .ref q1, .ref q2, .ref q5, .ref q4])), (q3, .inr (3, [.int (Int32.ofInt 0), .ref (v3_0 0), .ref (v3_0 1), .ref (v3_0 2), .ref (v3_1 0), .ref (v3_2 0), .ref (v3_2 1), .ref (v3_2 2), .ref (v3_2 3)])), (v3_0 0, aZ cs false 4), (v3_0 1, aZ cs false 4), (v3_0 2, aZ cs true 4), (v3_1 0, .inl (cs.2.2, 4, .inr (.inr (.inr (.inr (fun j => some (v3_1 (j + 1)))))))), (v3_1 1, aZ cs false 400), (v3_1 2, aZ cs false 400), (v3_1 3, aZ cs false 400), (v3_1 4, aZ cs false 400), (v3_2 0, aZ cs false 4), (v3_2 1, aZ cs false 4), (v3_2 2, aZ cs false 4), (v3_2 3, aZ cs false 4), (q0, .inr (0, [.ref (v0_0 0), .ref (v0_0 1), .ref (v0_0 2), .ref (v0_0 3), .ref (v0_0 4)])), (v0_0 0, A6 cs 8), (v0_0 1, A6 cs 8), (v0_0 2, aZ cs true 8), (v0_0 3, aZ cs false 8), (v0_0 4, aZ cs false 8), (q1, .inr (1, [.int (Int32.ofInt 0), .int (Int32.ofInt 1), .int (Int32.ofInt 0), .ref (v1_0 0), .ref (v1_0 1), .ref (v1_0 2), .ref (v1_0 3), .ref (v1_0 4), .ref (v1_0 5), .ref (v1_0 6)])), (v1_0 0, aZ cs false 16), (v1_0 1, aZ cs false 16), (v1_0 2, aZ cs false 16), (v1_0 3, aZ cs false 16), (v1_0 4, aZ cs false 16), (v1_0 5, aZ cs false 16), (v1_0 6, aZ cs true 16), (q2, .inr (2, [.int (Int32.ofInt 0), .ref (v2_0 0), .ref (v2_0 1), .ref (v2_0 2), .ref (v2_0 3), .ref (v2_0 4), .ref (v2_0 5), .ref (v2_0 6), .ref (v2_0 7), .ref (v2_0 8), .ref (v2_0 9), .ref (v2_0 10)])), (v2_0 0, aZ cs false 400), (v2_0 1, aZ cs false 400), (v2_0 2, aZ cs false 400), (v2_0 3, aZ cs false 400), (v2_0 4, aZ cs false 400), (v2_0 5, aZ cs false 400), (v2_0 6, aZ cs false 400), (v2_0 7, aZ cs false 400), (v2_0 8, aZ cs false 400), (v2_0 9, aZ cs false 400), (v2_0 10, aZ cs false 6), (q5, .inr (5, [.int (Int32.ofInt 0), .int (Int32.ofInt 0), .ref q3, .ref q0, .ref q1, .ref q2, .ref (v5_0 0)])), (v5_0 0, aZ cs true 16), (q4, .inr (4, [.int (Int32.ofInt 0), .ref (v4_0 0), .ref q3, .ref q0, .ref q1, .ref (v4_0 1), .ref (v4_0 2), .ref (v4_0 3), .int (Int32.ofInt 0), .int (Int32.ofInt 0), .int (Int32.ofInt 0), .int (Int32.ofInt 0)])), (v4_0 0, aZ cs false 8), (v4_0 1, aZ cs false 8), (v4_0 2, aZ cs false 4), (v4_0 3, aZ cs false 8), (q7, .inr (7, [.int (Int32.ofInt 0), .int (Int32.ofInt 0), .ref (v7_0 0), .ref (v7_0 1), .ref (v7_0 2), .ref (v7_0 3), .ref (v7_0 4), .ref (v7_0 5), .ref (v7_0 6), .ref (v7_0 7), .int (Int32.ofInt 0), .ref (v7_0 8), .ref (v7_0 9), .int (Int32.ofInt 1), .int (Int32.ofInt 0), .int (Int32.ofInt 0), .int (Int32.ofInt 0), .ref (v7_1 0), .ref (v7_1 1), .ref (v7_1 2), .ref (v7_1 3), .ref (v7_1 4), .ref (v7_1 5), .ref (v7_1 6), .ref (v7_1 7), .ref (v7_1 8), .ref (v7_1 9), .ref (v7_1 10), .int (Int32.ofInt 0), .int (Int32.ofInt 0), .ref (v7_1 11), .int (Int32.ofInt 0), .ref (v7_1 12), .ref (v7_1 13), .ref (v7_1 14), .ref (v7_1 15)])), (v7_0 0, aZ cs false 4), (v7_0 1, aZ cs false 4), (v7_0 2, aZ cs true 4), (v7_0 3, aZ cs false 4), (v7_0 4, A6 cs 8), (v7_0 5, A6 cs 8), (v7_0 6, aZ cs true 8), (v7_0 7, aZ cs false 8), (v7_0 8, aZ cs false 16), (v7_0 9, aZ cs false 16), (v7_1 0, aZ cs false 400), (v7_1 1, aZ cs false 400), (v7_1 2, aZ cs false 400), (v7_1 3, aZ cs false 400), (v7_1 4, aZ cs false 400), (v7_1 5, aZ cs false 400), (v7_1 6, aZ cs false 400), (v7_1 7, aZ cs false 400), (v7_1 8, aZ cs false 400), (v7_1 9, aZ cs false 400), (v7_1 10, aZ cs false 400), (v7_1 11, aZ cs false 400), (v7_1 12, aZ cs false 8), (v7_1 13, aZ cs false 4), (v7_1 14, aZ cs false 8), (v7_1 15, aZ cs false 8)]
def piL : List Nat := [0, 1, 14, 20, 28, 40, 42, 2, 3, 4, 5, 6, 7, 8, 9, 10, 11, 12, 13, 15, 16, 17, 18, 19, 21, 22, 23, 24, 25, 26, 27, 29, 30, 31, 32, 33, 34, 35, 36, 37, 38, 39, 41, 43, 44, 45, 46, 47, 48, 49, 50, 51, 52, 53, 54, 55, 56, 57, 58, 59, 60, 61, 62, 63, 64, 65, 66, 67, 68, 69, 70, 71, 72, 73]
theorem cel_z0 {cs : Cs} {ad : Nat → Nat} {r n : Nat} (e : M0 r = fun _ => 0) : cel cs ad M0 r (.inr (0, n)) = aZ cs false n := by
  unfold cel aZ ctB
  rw [e]
theorem cel_z1 {cs : Cs} {ad : Nat → Nat} {r n : Nat} (e : M0 r = fun _ => 0) : cel cs ad M0 r (.inr (1, n)) = aZ cs true n := by
  unfold cel aZ ctB
  rw [e]
theorem cel_6 {cs : Cs} {ad : Nat → Nat} {r : Nat} (e : M0 r = fun _ => -6) : cel cs ad M0 r (.inr (0, 8)) = .inl (cs.1, 8, .inl (fun _ => Int32.ofInt (-6))) := by
  unfold cel
  rw [e]
theorem at_6 {cs : Cs} {a : Nat} {D : va_G} {H : Heap} (h : va_at D vwCl (a, A6 cs 8) H) : va_at D vwCl (a, .inl (cs.1, 8, .inl (fun _ => Int32.ofInt (-6)))) H := by
  have h1 : H[a]? = some (vp_cell cs.1 (8, .inl (fun j => if j < 8 then Int32.ofInt (-6) else Int32.ofInt 0))) := h
  show H[a]? = some (vp_cell cs.1 (8, .inl (fun _ => Int32.ofInt (-6))))
  rw [h1, vp_cell_i, vp_cell_i]
  refine congrArg some (arrV_ext (fun j hj => ?_))
  rw [if_pos hj]
theorem at_R {cs : Cs} {a : Nat} {D : va_G} {H : Heap} {f f' : Nat → Nat} (e : ∀ j, j < 4 → f j = f' j) (h : va_at D vwCl (a, .inl (cs.2.2, 4, .inr (.inr (.inr (.inr (fun j => some (f j))))))) H) : va_at D vwCl (a, .inl (cs.2.2, 4, .inr (.inr (.inr (.inr (fun j => some (f' j))))))) H := by
  have h1 : H[a]? = some (vp_cell cs.2.2 (4, .inr (.inr (.inr (.inr (fun j => some (f j))))))) := h
  show H[a]? = some (vp_cell cs.2.2 (4, .inr (.inr (.inr (.inr (fun j => some (f' j)))))))
  rw [h1, vp_cell_q, vp_cell_q]
  refine congrArg some (arrV_ext (fun j hj => ?_))
  show va_rf (some (f j)) = va_rf (some (f' j))
  rw [e j hj]
set_option maxRecDepth 20000 in
set_option maxHeartbeats 4000000 in
theorem ob0 {cs : Cs} {ad : Nat → Nat} : cel cs ad M0 0 (.inl (6, [some 1, some 2, some 3, some 4, some 5, some 6])) = .inr (6, [.ref (ad 1), .ref (ad 2), .ref (ad 3), .ref (ad 4), .ref (ad 5), .ref (ad 6)]) := by
  simp [cel, fvl, List.mapIdx_cons, List.mapIdx_nil, M0_z (r := 0) (by decide) (by decide) (by decide) (by decide) (by decide) (by decide)]
set_option maxRecDepth 20000 in
set_option maxHeartbeats 4000000 in
theorem ob1 {cs : Cs} {ad : Nat → Nat} : cel cs ad M0 1 (.inl (3, [none, some 7, some 8, some 9, some 10, some 15, some 16, some 17, some 18])) = .inr (3, [.int (Int32.ofInt 0), .ref (ad 7), .ref (ad 8), .ref (ad 9), .ref (ad 10), .ref (ad 15), .ref (ad 16), .ref (ad 17), .ref (ad 18)]) := by
  simp [cel, fvl, List.mapIdx_cons, List.mapIdx_nil, M0_z (r := 1) (by decide) (by decide) (by decide) (by decide) (by decide) (by decide)]
set_option maxRecDepth 20000 in
set_option maxHeartbeats 4000000 in
theorem ob2 {cs : Cs} {ad : Nat → Nat} : cel cs ad M0 2 (.inl (0, [some 19, some 20, some 21, some 22, some 23])) = .inr (0, [.ref (ad 19), .ref (ad 20), .ref (ad 21), .ref (ad 22), .ref (ad 23)]) := by
  simp [cel, fvl, List.mapIdx_cons, List.mapIdx_nil, M0_z (r := 2) (by decide) (by decide) (by decide) (by decide) (by decide) (by decide)]
set_option maxRecDepth 20000 in
set_option maxHeartbeats 4000000 in
theorem ob3 {cs : Cs} {ad : Nat → Nat} : cel cs ad M0 3 (.inl (1, [none, none, none, some 24, some 25, some 26, some 27, some 28, some 29, some 30])) = .inr (1, [.int (Int32.ofInt 0), .int (Int32.ofInt 1), .int (Int32.ofInt 0), .ref (ad 24), .ref (ad 25), .ref (ad 26), .ref (ad 27), .ref (ad 28), .ref (ad 29), .ref (ad 30)]) := by
  simp [cel, fvl, List.mapIdx_cons, List.mapIdx_nil, M0_3]
set_option maxRecDepth 20000 in
set_option maxHeartbeats 4000000 in
theorem ob4 {cs : Cs} {ad : Nat → Nat} : cel cs ad M0 4 (.inl (2, [none, some 31, some 32, some 33, some 34, some 35, some 36, some 37, some 38, some 39, some 40, some 41])) = .inr (2, [.int (Int32.ofInt 0), .ref (ad 31), .ref (ad 32), .ref (ad 33), .ref (ad 34), .ref (ad 35), .ref (ad 36), .ref (ad 37), .ref (ad 38), .ref (ad 39), .ref (ad 40), .ref (ad 41)]) := by
  simp [cel, fvl, List.mapIdx_cons, List.mapIdx_nil, M0_z (r := 4) (by decide) (by decide) (by decide) (by decide) (by decide) (by decide)]
set_option maxRecDepth 20000 in
set_option maxHeartbeats 4000000 in
theorem ob5 {cs : Cs} {ad : Nat → Nat} : cel cs ad M0 5 (.inl (5, [none, none, some 1, some 2, some 3, some 4, some 42])) = .inr (5, [.int (Int32.ofInt 0), .int (Int32.ofInt 0), .ref (ad 1), .ref (ad 2), .ref (ad 3), .ref (ad 4), .ref (ad 42)]) := by
  simp [cel, fvl, List.mapIdx_cons, List.mapIdx_nil, M0_z (r := 5) (by decide) (by decide) (by decide) (by decide) (by decide) (by decide)]
set_option maxRecDepth 20000 in
set_option maxHeartbeats 4000000 in
theorem ob6 {cs : Cs} {ad : Nat → Nat} : cel cs ad M0 6 (.inl (4, [none, some 43, some 1, some 2, some 3, some 44, some 45, some 46, none, none, none, none])) = .inr (4, [.int (Int32.ofInt 0), .ref (ad 43), .ref (ad 1), .ref (ad 2), .ref (ad 3), .ref (ad 44), .ref (ad 45), .ref (ad 46), .int (Int32.ofInt 0), .int (Int32.ofInt 0), .int (Int32.ofInt 0), .int (Int32.ofInt 0)]) := by
  simp [cel, fvl, List.mapIdx_cons, List.mapIdx_nil, M0_z (r := 6) (by decide) (by decide) (by decide) (by decide) (by decide) (by decide)]
set_option maxRecDepth 20000 in
set_option maxHeartbeats 4000000 in
theorem ob47 {cs : Cs} {ad : Nat → Nat} : cel cs ad M0 47 (.inl (7, [none, none, some 48, some 49, some 50, some 51, some 52, some 53, some 54, some 55, none, some 56, some 57, none, none, none, none, some 58, some 59, some 60, some 61, some 62, some 63, some 64, some 65, some 66, some 67, some 68, none, none, some 69, none, some 70, some 71, some 72, some 73])) = .inr (7, [.int (Int32.ofInt 0), .int (Int32.ofInt 0), .ref (ad 48), .ref (ad 49), .ref (ad 50), .ref (ad 51), .ref (ad 52), .ref (ad 53), .ref (ad 54), .ref (ad 55), .int (Int32.ofInt 0), .ref (ad 56), .ref (ad 57), .int (Int32.ofInt 1), .int (Int32.ofInt 0), .int (Int32.ofInt 0), .int (Int32.ofInt 0), .ref (ad 58), .ref (ad 59), .ref (ad 60), .ref (ad 61), .ref (ad 62), .ref (ad 63), .ref (ad 64), .ref (ad 65), .ref (ad 66), .ref (ad 67), .ref (ad 68), .int (Int32.ofInt 0), .int (Int32.ofInt 0), .ref (ad 69), .int (Int32.ofInt 0), .ref (ad 70), .ref (ad 71), .ref (ad 72), .ref (ad 73)]) := by
  simp [cel, fvl, List.mapIdx_cons, List.mapIdx_nil, M0_47]
