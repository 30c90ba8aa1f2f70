/-! Branches, answers, calls, and from a frame to a contract. -/
section GB
variable {mt : Mt} {d : Nat} {P : PV → Mem → Prop} {pc nx tg : Nat} {lv st rest : List PV} {M : Mem}
theorem icmp_ok {op : Jvm.ClassFile.Cond} {o : Int} {x y : Int} (hl : lk pc mt.2.2.2.2.2 = some (nx, tg, .if_icmp op o)) (hx : rng x) (hy : rng y) (kt : pbc op x y → gV mt d P tg lv rest M) (kf : ¬ pbc op x y → gV mt d P nx lv rest M) : gV mt d P pc lv (vI y :: vI x :: rest) M := by
  intro p l e R s m args below meth c cells slots Q D ad A H0 cs C H locs ls hP hS hL
  have C' := C
  obtain ⟨c1, c2, c3, c4, c5, c6, c7, c8, c9, c10⟩ := C
  obtain ⟨r1, r2, r3⟩ := row_of c9 hl
  dsimp only [iln] at r1 r2
  subst r2
  have r4 := of_decide_eq_true r3
  have kt' := fun q => kt q p l e R s m args below meth c cells slots Q D ad A H0 cs C' H locs ls hP hS hL
  have kf' := fun q => kf q p l e R s m args below meth c cells slots Q D ad A H0 cs C' H locs ls hP hS hL
  cases op
  case eq => exact lv_icmp_eq c1 c2 r1 r4 (fun q => kt' ((i32_eq hx hy).mp q)) (fun q => kf' (fun z => q ((i32_eq hx hy).mpr z)))
  case ne => exact lv_icmp_ne c1 c2 r1 r4 (fun q => kt' (fun z => q ((i32_eq hx hy).mpr z))) (fun q => kf' (fun z => z ((i32_eq hx hy).mp q)))
  case lt => exact lv_icmp_lt c1 c2 r1 r4 (fun q => kt' ((i32_lt hx hy).mp q)) (fun q => kf' (fun z => q ((i32_lt hx hy).mpr z)))
  case ge => exact lv_icmp_ge c1 c2 r1 r4 (fun q => kt' ((i32_le hy hx).mp q)) (fun q => kf' (fun z => q ((i32_le hy hx).mpr z)))
  case gt => exact lv_icmp_gt c1 c2 r1 r4 (fun q => kt' ((i32_lt hy hx).mp q)) (fun q => kf' (fun z => q ((i32_lt hy hx).mpr z)))
  case le => exact lv_icmp_le c1 c2 r1 r4 (fun q => kt' ((i32_le hx hy).mp q)) (fun q => kf' (fun z => q ((i32_le hx hy).mpr z)))
theorem ifc_ok {op : Jvm.ClassFile.Cond} {o : Int} {x : Int} (hl : lk pc mt.2.2.2.2.2 = some (nx, tg, .ifCond op o)) (hx : rng x) (kt : pbc op x 0 → gV mt d P tg lv rest M) (kf : ¬ pbc op x 0 → gV mt d P nx lv rest M) : gV mt d P pc lv (vI x :: rest) M := by
  intro p l e R s m args below meth c cells slots Q D ad A H0 cs C H locs ls hP hS hL
  have C' := C
  obtain ⟨c1, c2, c3, c4, c5, c6, c7, c8, c9, c10⟩ := C
  obtain ⟨r1, r2, r3⟩ := row_of c9 hl
  dsimp only [iln] at r1 r2
  subst r2
  have r4 := of_decide_eq_true r3
  have hy := rng_0
  have kt' := fun q => kt q p l e R s m args below meth c cells slots Q D ad A H0 cs C' H locs ls hP hS hL
  have kf' := fun q => kf q p l e R s m args below meth c cells slots Q D ad A H0 cs C' H locs ls hP hS hL
  cases op
  case eq => exact lv_if_eq c1 c2 r1 r4 (fun q => kt' ((i32_eq hx hy).mp q)) (fun q => kf' (fun z => q ((i32_eq hx hy).mpr z)))
  case ne => exact lv_if_ne c1 c2 r1 r4 (fun q => kt' (fun z => q ((i32_eq hx hy).mpr z))) (fun q => kf' (fun z => z ((i32_eq hx hy).mp q)))
  case lt => exact lv_if_lt c1 c2 r1 r4 (fun q => kt' ((i32_lt hx hy).mp q)) (fun q => kf' (fun z => q ((i32_lt hx hy).mpr z)))
  case ge => exact lv_if_ge c1 c2 r1 r4 (fun q => kt' ((i32_le hy hx).mp q)) (fun q => kf' (fun z => q ((i32_le hy hx).mpr z)))
  case gt => exact lv_if_gt c1 c2 r1 r4 (fun q => kt' ((i32_lt hy hx).mp q)) (fun q => kf' (fun z => q ((i32_lt hy hx).mpr z)))
  case le => exact lv_if_le c1 c2 r1 r4 (fun q => kt' ((i32_le hx hy).mp q)) (fun q => kf' (fun z => q ((i32_le hx hy).mpr z)))
theorem gV_if {z : Nat × Nat × List PV} {φ cnd : Prop} (h : pb mt pc st = some (z, φ, cnd)) (hφ : φ) (kt : cnd → gV mt d P z.1 lv z.2.2 M) (kf : ¬ cnd → gV mt d P z.2.1 lv z.2.2 M) : gV mt d P pc lv st M := by
  unfold pb at h
  cases hl : lk pc mt.2.2.2.2.2 with
  | none => rw [hl] at h; cases h
  | some x =>
    obtain ⟨nx, tg, ins⟩ := x
    rw [hl] at h
    dsimp only at h
    cases ins
    case if_icmp op o =>
      dsimp only at h
      split at h
      next y x rest => cases h; exact icmp_ok hl hφ.1 hφ.2 kt kf
      next => cases h
    case ifCond op o =>
      dsimp only at h
      split at h
      next x rest => cases h; exact ifc_ok hl hφ kt kf
      next => cases h
    all_goals cases h
theorem gV_ret {x : Int} (hl : lk pc mt.2.2.2.2.2 = some (nx, tg, .ireturn)) (ho : rOk mt.2.2.2.1 (vI x)) (hp : P (vI x) M) : gV mt d P pc lv [vI x] M := by
  intro p l e R s m args below meth c cells slots Q D ad A H0 cs C H locs ls hP hS hL
  obtain ⟨c1, c2, c3, c4, c5, c6, c7, c8, c9, c10⟩ := C
  obtain ⟨r1, r2, r3⟩ := row_of c9 hl
  exact c10 (vI x) M pc H locs ls hp ho hP hS r1
theorem gV_retv (hl : lk pc mt.2.2.2.2.2 = some (nx, tg, .return_)) (ho : rOk mt.2.2.2.1 none) (hp : P none M) : gV mt d P pc lv [] M := by
  intro p l e R s m args below meth c cells slots Q D ad A H0 cs C H locs ls hP hS hL
  obtain ⟨c1, c2, c3, c4, c5, c6, c7, c8, c9, c10⟩ := C
  obtain ⟨r1, r2, r3⟩ := row_of c9 hl
  exact c10 none M pc H locs ls hp ho hP hS r1
end GB
/-- the locals at the entry -/
def pad (as : List PV) (n : Nat) : List PV := as ++ List.replicate (n - as.length) none
theorem pad_args (ad : Nat → Nat) : ∀ (as : List PV) (k : Nat), (∀ v ∈ as, (∃ x, v = vI x) ∨ ∃ r, v = vR r) → lv_args k (as.map (cv ad)) = (as.mapIdx (fun j v => (k + j, cv ad v)))
  | [], k, _ => rfl
  | a :: as, k, h => by
    have h1 := pad_args ad as (k + 1) (fun v hv => h v (List.mem_cons_of_mem _ hv))
    have h2 : (cv ad a).category = 1 := by
      rcases h a List.mem_cons_self with ⟨x, rfl⟩ | ⟨r, rfl⟩ <;> rfl
    simp only [List.map_cons, lv_args, List.mapIdx_cons, h2]
    rw [if_neg (by decide), h1]
    simp only [Nat.add_zero, List.cons.injEq, true_and]
    apply List.mapIdx_eq_mapIdx_iff.mpr
    intro i hi
    simp only [Prod.mk.injEq, and_true]
    omega
theorem pad_sl (ad : Nat → Nat) : ∀ (as : List PV), (∀ v ∈ as, (∃ x, v = vI x) ∨ ∃ r, v = vR r) → (lg_sl (as.map (cv ad))).length = as.length
  | [], _ => rfl
  | a :: as, h => by
    have h1 := pad_sl ad as (fun v hv => h v (List.mem_cons_of_mem _ hv))
    simp only [lg_sl, List.map_cons, List.flatMap_cons, List.length_append] at h1 ⊢
    rw [h1]
    rcases h a List.mem_cons_self with ⟨x, rfl⟩ | ⟨r, rfl⟩ <;> simp [cv, Value.category, Nat.add_comm]

theorem wld_D {cs : Cs} {ad : Nat → Nat} {A A' : Nat → Prop} {M M' : Mem} (h : va_D A (wld cs ad M)) (hA : ∀ k, k < 74 → A' (ad k)) : va_D A' (wld cs ad M') := by
  have key : ∀ (i : Nat) (q : Nat × va_E), (wld cs ad M')[i]? = some q → ∃ q0, (wld cs ad M)[i]? = some q0 ∧ q0.1 = q.1 ∧ q.1 = ad i ∧ i < 74 := by
    intro i q hq
    have hl : i < (wld cs ad M').length := (List.getElem?_eq_some_iff.mp hq).1
    rw [wld_len] at hl
    obtain ⟨sh, h1, rfl⟩ := wld_at hq
    exact ⟨_, wld_get h1, rfl, rfl, hl⟩
  refine ⟨fun i j a b hi hj hab => ?_, fun k q hq => ?_⟩
  · obtain ⟨a0, h1, h2, -⟩ := key i a hi
    obtain ⟨b0, h3, h4, -⟩ := key j b hj
    exact h.1 i j a0 b0 h1 h3 (by rw [h2, h4, hab])
  · obtain ⟨q0, h1, h2, h3, h4⟩ := key k q hq
    rw [h3]
    exact hA k h4
theorem wld_A {cs : Cs} {ad : Nat → Nat} {A : Nat → Prop} {M : Mem} (h : va_D A (wld cs ad M)) (k : Nat) (hk : k < 74) : A (ad k) := by
  have hl : k < shL.length := hk
  have h1 : shp k = some (shL[k]'hl) := by unfold shp; rw [shf_eq]; exact List.getElem?_eq_getElem hl
  exact h.2 k _ (wld_get h1)
theorem tbl_good {w : Cond} (h : w ∈ lw_g) : (w.onTables && w.keeps) = true ∨ ∃ ty, w = .arrayClass ty := good_of_word (List.mem_filter.mp h).2
set_option maxHeartbeats 1000000 in
theorem gOk_of {mt : Mt} {d : Nat} {as : List PV} {M : Mem} {P : PV → Mem → Prop} (hm : mtOk mt) (ha : ∀ v ∈ as, (∃ x, v = vI x) ∨ ∃ r, v = vR r) (hlen : as.length ≤ mt.2.2.1) (h : gV mt d P 0 (pad as mt.2.2.1) [] M) : gOk mt d as M P := by
  intro l cs D ad
  refine Met.ofW (cc := mt.2.1) (maxL := mt.2.2.1) (ret := mt.2.2.2.1) hm.1 rfl ?_
  intro p e s m args below meth c s₁ B hml hv
  obtain ⟨rfl, hP, hK, hD0⟩ := hv
  have hx := B.exec
  have hb := B.bytes
  have hr := B.returns
  have hts := atoms_spec (ws := Cond.code mt.1 mt.2.1 mt.2.2.1 mt.2.2.2.1 :: lw_g) B.pre
  have hown : s.vm.findClass mt.1.cls = some m.cls := findClass_of_methodNamed B.named
  have hlocks := B.notSynchronized
  have hS : va_S (gF ad) s.heap s.heap [] := va_S.rf
  have hD : ∀ M', va_D (gF ad) (wld cs ad M') := fun M' => wld_D hD0 (fun k hk => ⟨k, hk, rfl⟩)
  have hl := lv_entry (as.map (cv ad)) (n := mt.2.2.1) (by rw [pad_sl ad as ha]; exact hlen)
  rw [lg_entry_eq]
  generalize (lg_sl (as.map (cv ad)) ++ List.replicate (mt.2.2.1 - (lg_sl (as.map (cv ad))).length) Slot.unset).toArray = ls at hl ⊢
  have hL : gL ad ls mt.2.2.1 (pad as mt.2.2.1) := by
    refine ⟨by simp [pad]; omega, hl.1, hl.2.1, ?_⟩
    rintro ⟨k, w⟩ hq
    refine hl.2.2 (k, w) ?_
    rw [pad_args ad as 0 ha]
    have key : ∀ v : Int ⊕ (Nat ⊕ Int), (pad as mt.2.2.1)[k]? = some (some v) → as[k]? = some (some v) := by
      intro v hv
      unfold pad at hv
      by_cases hk : k < as.length
      · rwa [List.getElem?_append_left hk] at hv
      · rw [List.getElem?_append_right (by omega)] at hv
        have := List.mem_of_getElem? hv
        have := List.eq_of_mem_replicate this
        cases this
    rw [lal_mem] at hq
    rcases hq with ⟨x, h1, rfl⟩ | ⟨r, h1, rfl⟩
    · refine List.mem_of_getElem? (i := k) ?_
      rw [List.getElem?_mapIdx, key _ h1]
      simp [cv]
    · refine List.mem_of_getElem? (i := k) ?_
      rw [List.getElem?_mapIdx, key _ h1]
      simp [cv]
  refine h p l e _ s m _ below meth c 0 0 _ D ad (gF ad) s.heap cs ⟨hx, hb, hml, hown, fun w hw => hts w (List.mem_cons_of_mem _ hw), hK, hD, ⟨Nat.le_refl _, Nat.le_refl _, Nat.le_refl _, Nat.le_refl _⟩, hm, ?_⟩ s.heap [] ls hP hS hL
  intro r M' pc H locs ls' hp ho hP' hS' hdg
  cases hret : mt.2.2.2.1 with
  | none =>
    rw [hret] at ho hr
    rcases r with _ | v
    · exact W.vret hx hb hr (fun t ht hW => ⟨⟨none, M', rfl, hp, by rw [ht]; exact hP'⟩, hS'.F ht⟩) hS'.2.2 hdg
    · exact ho.elim
  | some ty =>
    rw [hret] at ho hr
    rcases r with _ | x | r | x
    · cases ty <;> exact ho.elim
    · have hn : narrow ty (.int (Int32.ofInt x)) = .int (Int32.ofInt x) := by
        cases ty <;> first | rfl | exact ho.elim | exact nar_b ho
      exact W.zret hx hb hr hn (fun t ht hW => ⟨⟨vI x, M', rfl, hp, by rw [ht]; exact hP'⟩, hS'.F ht⟩) hS'.2.2 hdg
    · cases ty <;> exact ho.elim
    · cases ty <;> exact ho.elim
theorem run_go {p : Program} {l : Launch} {e : Env} {R : Room} {s : State} {m : MethodId} {args : Array Value} {below : List Frame} {meth : Method} {c : Code} {cells slots : Nat} {Q : State → Prop} {D : va_G} {ad : Nat → Nat} {A : Nat → Prop} {H0 H : Heap} {cs : Cs} {locs : List Loc} {pc : Nat} {ls : Array Slot} {st0 rest : List Value} {P : PV → Mem → Prop} {a : Array Value}
    (hr : va_Run p l e R s m args below meth c H locs cells slots 0 0 (F0 m pc ls st0) rest (gQ cs D ad P a) (gF ad)) (hS : va_S A H0 H locs) (hA : ∀ k, k < 74 → A (ad k))
    (kk : ∀ (r : PV) (M : Mem) (H1 : Heap) (locs1 : List Loc), P r M → va_P D vwCl (wld cs ad M) H1 → va_S A H0 H1 locs1 → W p l e R s m args below meth c H1 locs1 cells slots Q (F0 m (pc + 3) ls ((rv ad r).toList ++ rest))) : W p l e R s m args below meth c H locs cells slots Q (F0 m pc ls st0) := by
  have hf : ∀ q, gF ad q → A q := fun q ⟨k, hk, hq⟩ => hq ▸ hA k hk
  intro T hT X
  obtain ⟨v, st₀, t, T', L, h0, X', hL, e1, e2, ⟨⟨r, M, hv, hp, hb⟩, hz, hk⟩, st⟩ := hr T hT X
  cases hv
  rw [h0] at hz hk
  obtain ⟨t2, a1, b1⟩ := kk r M T'.heap (locs ++ L) hp (by rw [e1]; exact hb)
    ⟨Nat.le_trans hS.1 (by rw [e1]; exact hz), fun q h1 h2 => by rw [e1, hk q (Nat.lt_of_lt_of_le h1 hS.1) (fun z => h2 (hf q z))]; exact hS.2.1 q h1 h2, fun q hq => by
      rcases List.mem_append.mp hq with h | h
      · exact hS.2.2 q h
      · exact hf _ (hL q h)⟩ T' rfl X'
  exact ⟨t2, st t2 a1, b1⟩
/-- what the tables must say of a call: of an instance's method, of a static one -/
def siteV (own : String) (ix : Nat) (y : MethodName) (n : Nat) : Prop := Cond.methodLink own ix y ∈ lw_g ∧ Cond.instanceMethod y ∈ lw_g ∧ Cond.selects y.cls y y ∈ lw_g ∧ Cond.initialized y.cls ∈ lw_g ∧ (y.cls ≠ "java/lang/invoke/MethodHandle" ∧ y.cls ≠ "java/lang/invoke/VarHandle" ∧ (parseMethodDescriptor y.desc).map (fun d => d.parameters.length) = some n)
def siteS (own : String) (ix : Nat) (y : MethodName) (n : Nat) : Prop := Cond.methodLink own ix y ∈ lw_g ∧ Cond.static y ∈ lw_g ∧ Cond.initialized y.cls ∈ lw_g ∧ (y.cls ≠ "java/lang/invoke/MethodHandle" ∧ y.cls ≠ "java/lang/invoke/VarHandle" ∧ (parseMethodDescriptor y.desc).map (fun d => d.parameters.length) = some n)
theorem gW_blind {cs : Cs} {D : va_G} {ad : Nat → Nat} {as : List PV} {M : Mem} : FrameBlind (gW cs D ad as M) := fun a U g mk q => by
  obtain ⟨q0, qP, qK, qD⟩ := q
  exact ⟨q0, qP, va_K.moved (u := U) (U := U.calling g mk a) (Vm.Alike.refl U.vm) qK, qD⟩
def noL (l : List PV) : Bool := match l with
  | [] => true
  | some (.inr (.inr _)) :: _ => false
  | _ :: l => noL l
theorem noL_sum (ad : Nat → Nat) : ∀ (l : List PV), noL l = true → ((l.map (cv ad)).map fun v => v.category).sum = l.length
  | [], _ => rfl
  | none :: l, h => by
    have h1 := noL_sum ad l h
    simp only [List.map_cons, List.sum_cons, List.length_cons, h1]
    exact Nat.add_comm _ _
  | some (.inl x) :: l, h => by
    have h1 := noL_sum ad l h
    simp only [List.map_cons, List.sum_cons, List.length_cons, h1]
    exact Nat.add_comm _ _
  | some (.inr (.inl r)) :: l, h => by
    have h1 := noL_sum ad l h
    simp only [List.map_cons, List.sum_cons, List.length_cons, h1]
    exact Nat.add_comm _ _
  | some (.inr (.inr x)) :: l, h => by cases h
theorem rp_map (ad : Nat → Nat) (r : PV) (rest : List PV) : (rv ad r).toList ++ rest.map (cv ad) = (rp r rest).map (cv ad) := by
  cases r <;> rfl
section GCL
variable {mt mt' : Mt} {d : Nat} {P P' : PV → Mem → Prop} {pc nx tg ix n : Nat} {lv st as rest : List PV} {M : Mem}
theorem gV_callV {r ci : Nat} {fs : List (Option Nat)} {T : u_T} {N : Nat} (hl : lk pc mt.2.2.2.2.2 = some (nx, tg, .invokevirtual ix)) (hm : mtOk mt') (hs : siteV mt.1.cls ix mt'.1 n) (hn : as.length = n) (hst : st = as.reverse ++ vR r :: rest) (hr : shp r = some (.inl (ci, fs))) (hc : vwCl[ci]? = some (mt'.1.cls, T, N)) (hz : (noL rest && Nat.ble rest.length 8) = true)
    (hok : gOk mt' d (vR r :: as) M P') (kk : ∀ (r : PV) (M : Mem), P' r M → gV mt (d + 1) P nx lv (rp r rest) M) : gV mt (d + 1) P pc lv st M := by
  intro p l e R s m args below meth c cells slots Q D ad A H0 cs C H locs ls hP hS hL
  have C' := C
  obtain ⟨c1, c2, c3, c4, c5, c6, c7, c8, c9, c10⟩ := C
  obtain ⟨r1, r2, r3⟩ := row_of c9 hl
  dsimp only [iln] at r1 r2
  subst r2
  obtain ⟨s1, s2, s3, s4, s5⟩ := hs
  rw [Bool.and_eq_true] at hz
  have hz2 : rest.length ≤ 8 := Nat.le_of_ble_eq_true hz.2
  have hG : GoodIn lw_g (wsV mt.1.cls ix mt'.1.cls mt'.1 (Cond.code mt'.1 mt'.2.1 mt'.2.2.1 mt'.2.2.2.1 :: lw_g)) := by
    intro w hw
    have hw2 : w ∈ lw_g := by
      unfold wsV at hw
      simp only [List.cons_append, List.nil_append, List.mem_cons] at hw
      rcases hw with rfl | rfl | rfl | rfl | rfl | hw
      · exact s1
      · exact s2
      · exact s3
      · exact s4
      · exact hm.2.2.2.2
      · exact hw
    exact ⟨hw2, tbl_good hw2⟩
  have hm20 := hm.2.2.2.1
  have cw : CallW R s args mt.1.cls mt'.1.cls ix mt'.1 mt'.2.1 mt'.2.2.1 mt'.2.2.2.1 (Cond.code mt'.1 mt'.2.1 mt'.2.2.1 mt'.2.2.2.1 :: lw_g) (gRoom d) 0 0 n :=
    cwV n c5 hG rfl rfl rfl ⟨rfl, s5⟩ ⟨by show d + 1 ≤ R.frames; exact c8.1, by show 8 + (mt'.2.2.1 + 11) + 40 * d ≤ R.locals; have := c8.2.1; omega⟩
  refine run_go (va_runV (As := as.map (cv ad)) (rest := rest.map (cv ad)) ⟨c1, c2, c3, c4, c5⟩ (hok l cs D ad) cw ⟨gW_blind, va_recv c6 hP hc (wld_get hr), fun U hU hW => ⟨by rw [List.map_cons]; rfl, by rw [hU]; exact hP, va_K.moved hW.alike c6, wld_D (c7 M) (fun _ _ => trivial)⟩⟩ rfl (by rw [List.length_map]; exact hn) hL.2.1 (by rw [hst]; simp [cv]) (lv_room (by rw [noL_sum ad rest hz.1]; exact hz2)) r1 ⟨c8.2.2.1, c8.2.2.2⟩) hS (wld_A (c7 M)) (fun r M1 H1 locs1 h1 h2 h3 => ?_)
  rw [rp_map]
  exact kk r M1 h1 p l e R s m args below meth c cells slots Q D ad A H0 cs C' H1 locs1 ls h2 h3 hL
theorem gV_callS (hl : lk pc mt.2.2.2.2.2 = some (nx, tg, .invokestatic ix)) (hm : mtOk mt') (hs : siteS mt.1.cls ix mt'.1 n) (hn : as.length = n) (hst : st = as.reverse ++ rest) (hz : (noL rest && Nat.ble rest.length 8) = true)
    (hok : gOk mt' d as M P') (kk : ∀ (r : PV) (M : Mem), P' r M → gV mt (d + 1) P nx lv (rp r rest) M) : gV mt (d + 1) P pc lv st M := by
  intro p l e R s m args below meth c cells slots Q D ad A H0 cs C H locs ls hP hS hL
  have C' := C
  obtain ⟨c1, c2, c3, c4, c5, c6, c7, c8, c9, c10⟩ := C
  obtain ⟨r1, r2, r3⟩ := row_of c9 hl
  dsimp only [iln] at r1 r2
  subst r2
  obtain ⟨s1, s2, s4, s5⟩ := hs
  rw [Bool.and_eq_true] at hz
  have hz2 : rest.length ≤ 8 := Nat.le_of_ble_eq_true hz.2
  have hG : GoodIn lw_g (va_wsS mt.1.cls ix mt'.1 (Cond.code mt'.1 mt'.2.1 mt'.2.2.1 mt'.2.2.2.1 :: lw_g)) := by
    intro w hw
    have hw2 : w ∈ lw_g := by
      unfold va_wsS at hw
      simp only [List.cons_append, List.nil_append, List.mem_cons] at hw
      rcases hw with rfl | rfl | rfl | rfl | hw
      · exact s1
      · exact s2
      · exact s4
      · exact hm.2.2.2.2
      · exact hw
    exact ⟨hw2, tbl_good hw2⟩
  have hm20 := hm.2.2.2.1
  have cw := va_cwS (R := R) (rm := gRoom d) (mc := 0) (ms := 0) (bytes := mt'.2.1) (maxL := mt'.2.2.1) (ret := mt'.2.2.2.1) n c5 hG rfl rfl rfl s5 ⟨by show d + 1 ≤ R.frames; exact c8.1, by show 8 + (mt'.2.2.1 + 11) + 40 * d ≤ R.locals; have := c8.2.1; omega⟩
  refine run_go (va_runS (As := as.map (cv ad)) (rest := rest.map (cv ad)) ⟨c1, c2, c3, c4, c5⟩ (hok l cs D ad) cw ⟨gW_blind, fun U hU hW => ⟨rfl, by rw [hU]; exact hP, va_K.moved hW.alike c6, wld_D (c7 M) (fun _ _ => trivial)⟩⟩ rfl (by rw [List.length_map]; exact hn) hL.2.1 (by rw [hst]; simp) (lv_room (by rw [noL_sum ad rest hz.1]; exact hz2)) r1 ⟨c8.2.2.1, c8.2.2.2⟩) hS (wld_A (c7 M)) (fun r M1 H1 locs1 h1 h2 h3 => ?_)
  rw [rp_map]
  exact kk r M1 h1 p l e R s m args below meth c cells slots Q D ad A H0 cs C' H1 locs1 ls h2 h3 hL
end GCL
