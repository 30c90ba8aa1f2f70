/-! Constructors: the loop that writes -6 into two rows of eight; the shorter form of the rows of new arrays. -/
def A6 (cs : Cs) (k : Nat) : va_E := .inl (cs.1, 8, .inl (fun j => if j < k then Int32.ofInt (-6) else Int32.ofInt 0))
theorem A6_0 (cs : Cs) : A6 cs 0 = aZ cs false 8 := by
  unfold A6 aZ ctB
  simp
def loopOk (cc : ByteArray) (p0 ia ib : Nat) : Prop := decode cc p0 = .ok (.iload_n 1, 1) ∧ decode cc (p0 + 1) = .ok (.bipush 8, 2) ∧ decode cc (p0 + 3) = .ok (.if_icmp .ge 25, 3) ∧ decode cc (p0 + 6) = .ok (.aload_n 0, 1) ∧ decode cc (p0 + 7) = .ok (.getfield ia, 3) ∧ decode cc (p0 + 10) = .ok (.iload_n 1, 1) ∧ decode cc (p0 + 11) = .ok (.bipush (-6), 2) ∧ decode cc (p0 + 13) = .ok (.iastore, 1) ∧
  decode cc (p0 + 14) = .ok (.aload_n 0, 1) ∧ decode cc (p0 + 15) = .ok (.getfield ib, 3) ∧ decode cc (p0 + 18) = .ok (.iload_n 1, 1) ∧ decode cc (p0 + 19) = .ok (.bipush (-6), 2) ∧ decode cc (p0 + 21) = .ok (.iastore, 1) ∧ decode cc (p0 + 22) = .ok (.iinc 1 1, 3) ∧ decode cc (p0 + 25) = .ok (.goto (-25), 3)
theorem A6_up (k : Nat) (hk : k < 8) : upd (fun j : Nat => if j < k then Int32.ofInt (-6) else Int32.ofInt 0) (Int32.ofInt (k : Int)).toNatClampNeg (Int32.ofInt (-6)) = fun j => if j < k + 1 then Int32.ofInt (-6) else Int32.ofInt 0 := by
  have e : (Int32.ofInt (k : Int)).toNatClampNeg = k := by rw [i32_clamp (by omega) (by omega)]; omega
  rw [e]
  funext j
  unfold upd
  by_cases h1 : j = k
  · rw [if_pos h1, if_pos (by omega)]
  · rw [if_neg h1]
    show (if j < k then Int32.ofInt (-6) else Int32.ofInt 0) = _
    by_cases h2 : j < k
    · rw [if_pos h2, if_pos (by omega)]
    · rw [if_neg h2, if_neg (by omega)]
set_option maxHeartbeats 2000000 in
theorem iW_loop {X : Ix} {own : String} {cc : ByteArray} {d : Nat} {ws : va_W} {cells slots h0 ci : Nat} {fs : List Value} {T : u_T} {N ka kb ia ib qa qb a b p0 : Nat} {ea eb : va_E} (C : iC X own cc d) (hci : vwCl[ci]? = some (own, T, N)) (hr : loopOk cc p0 ia ib) (hka : ka < N) (hkb : kb < N) (hla : Cond.fieldLink own ia (T ka).1 (T ka).2.1 (T ka).2.2.1 ∈ lw_g) (hlb : Cond.fieldLink own ib (T kb).1 (T kb).2.1 (T kb).2.2.1 ∈ lw_g)
    (he : ws[0]? = some (h0, .inr (ci, fs))) (hfa : fs[ka]? = some (.ref a)) (hfb : fs[kb]? = some (.ref b)) (hqa : ws[qa]? = some (a, ea)) (hqb : ws[qb]? = some (b, eb)) (ha0 : qa ≠ 0) (hb0 : qb ≠ 0) (hab : qa ≠ qb)
    (kk : ∀ ls, iW X ls (p0 + 28) [] ((ws.set qa (a, A6 (iS X) 8)).set qb (b, A6 (iS X) 8)) cells slots) : ∀ (n k : Nat), n + k = 8 → ∀ ls : Array Slot, lv_has ls 2 [(1, .int (Int32.ofInt (k : Int))), (0, .ref h0)] → iW X ls p0 [] ((ws.set qa (a, A6 (iS X) k)).set qb (b, A6 (iS X) k)) cells slots := by
  obtain ⟨p, l, e, R, s, m, args, below, meth, c, Q, D, A, H0, cs⟩ := X
  obtain ⟨c1, c2, c3, c4, c5, c6, c7, c8⟩ := C
  obtain ⟨d0, d1, d3, d6, d7, d10, d11, d13, d14, d15, d18, d19, d21, d22, d25⟩ := hr
  obtain ⟨hw, ty0, ht0, hnm⟩ := clOk ci own T N hci
  have la : qa < ws.length := (List.getElem?_eq_some_iff.mp hqa).1
  have lb : qb < ws.length := (List.getElem?_eq_some_iff.mp hqb).1
  have g0 : ∀ x y : va_E, ((ws.set qa (a, x)).set qb (b, y))[0]? = some (h0, .inr (ci, fs)) := fun x y => by
    rw [List.getElem?_set_ne (by omega), List.getElem?_set_ne (by omega)]
    exact he
  have ga : ∀ x y : va_E, ((ws.set qa (a, x)).set qb (b, y))[qa]? = some (a, x) := fun x y => by
    rw [List.getElem?_set_ne (by omega), List.getElem?_set_self la]
  have gb : ∀ x y : va_E, ((ws.set qa (a, x)).set qb (b, y))[qb]? = some (b, y) := fun x y => by
    rw [List.getElem?_set_self (by rw [List.length_set]; exact lb)]
  have sa : ∀ x y z : va_E, ((ws.set qa (a, x)).set qb (b, y)).set qa (a, z) = (ws.set qa (a, z)).set qb (b, y) := fun x y z => by
    rw [List.set_comm _ _ hab.symm, List.set_set]
  have sb : ∀ x y z : va_E, ((ws.set qa (a, x)).set qb (b, y)).set qb (b, z) = (ws.set qa (a, x)).set qb (b, z) := fun x y z => by
    rw [List.set_set]
  intro n
  induction n with
  | zero =>
    intro k hk ls hl H locs hP hD hS
    have hk8 : k = 8 := by omega
    subst hk8
    refine lv_iload_n c1 c2 d0 rfl (lv_at hl 0 rfl) (lv_bipush (v := Int32.ofInt 8) c1 c2 d1 (by decide) (lv_icmp_ge (tgt := p0 + 28) c1 c2 d3 (by omega) (fun _ => kk ls H locs hP hD hS) (fun q => absurd ?_ q)))
    decide
  | succ n ih =>
    intro k hk ls hl H locs hP hD hS
    have hk8 : k < 8 := by omega
    refine lv_iload_n c1 c2 d0 rfl (lv_at hl 0 rfl) (lv_bipush (v := Int32.ofInt 8) c1 c2 d1 (by decide) (lv_icmp_ge (tgt := p0 + 28) c1 c2 d3 (by omega) (fun q => absurd ((i32_le ⟨by omega, by omega⟩ ⟨by omega, by omega⟩).mp q) (by omega)) (fun _ => ?_)))
    refine lv_aload_n c1 c2 d6 rfl (lv_at hl 1 rfl) ?_
    refine va_get c1 c2 c4 hw c3 c5 hP 0 (g0 _ _) hci ka hka (c4 _ hla) (fun _ h => h) hfa d7 ?_
    refine lv_iload_n c1 c2 d10 rfl (lv_at hl 0 rfl) (lv_bipush (v := Int32.ofInt (-6)) c1 c2 d11 (by decide) ?_)
    refine va_iast c1 c2 c5 hP hD hS qa 0 (ga _ _) rfl (i32_in (by omega) (by omega) (by omega)) d13 (fun H1 locs1 hP1 hD1 hS1 => ?_)
    rw [A6_up k hk8, sa] at hP1 hD1
    refine lv_aload_n c1 c2 d14 rfl (lv_at hl 1 rfl) ?_
    refine va_get c1 c2 c4 hw c3 c5 hP1 0 (g0 _ _) hci kb hkb (c4 _ hlb) (fun _ h => h) hfb d15 ?_
    refine lv_iload_n c1 c2 d18 rfl (lv_at hl 0 rfl) (lv_bipush (v := Int32.ofInt (-6)) c1 c2 d19 (by decide) ?_)
    refine va_iast c1 c2 c5 hP1 hD1 hS1 qb 0 (gb _ _) rfl (i32_in (by omega) (by omega) (by omega)) d21 (fun H2 locs2 hP2 hD2 hS2 => ?_)
    rw [A6_up k hk8, sb] at hP2 hD2
    refine lv_iinc (v := Int32.ofInt ((k + 1 : Nat) : Int)) c1 c2 d22 hl (k := 0) rfl ((Int32.ofInt_add (k : Int) 1).symm.trans (by rw [Int.natCast_add]; rfl)) (by decide) rfl (fun ls' hl' => ?_)
    exact lv_goto (tgt := p0) c1 c2 d25 (by omega) (ih (k + 1) (by omega) ls' hl' H2 locs2 hP2 hD2 hS2)
theorem iW_ars {X : Ix} {own : String} {cc : ByteArray} {d : Nat} {ls : Array Slot} {h0 ci : Nat} {T : u_T} {N pe : Nat} (C : iC X own cc d) (hN : iN X) (hci : vwCl[ci]? = some (own, T, N)) (hl : ls[0]? = some (.val (.ref h0))) {sp : List Spe} {pc : Nat} {fs : List Value} {tl : va_W} {cells slots mc ms : Nat} (ho : spsOk own cc T N pc sp pe) (hfs : fs.length = N) (hR : iR X mc ms) (hm : cells + sp.length = mc) (hs : slots + tot sp = ms)
    (kk : ∀ u : Nat → Nat, iW X ls pe [] ((h0, .inr (ci, fSet fs sp u)) :: (tl ++ aLst (iS X) sp u)) mc ms) : iW X ls pc [] ((h0, .inr (ci, fs)) :: tl) cells slots := by
  subst hm
  subst hs
  exact iW_arrs C hN hci hl sp pc fs tl cells slots ho hfs hR kk
theorem iR_le {X : Ix} {a b a' b' : Nat} (h : iR X a b) (h1 : a' ≤ a) (h2 : b' ≤ b) : iR X a' b' := by
  obtain ⟨p, l, e, R, s, m, args, below, meth, c, Q, D, A, H0, cs⟩ := X
  exact ⟨Nat.le_trans h1 h.1, Nat.le_trans h2 h.2⟩
