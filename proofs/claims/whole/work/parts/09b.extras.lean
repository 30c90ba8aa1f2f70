/-! Math.min, System.arraycopy, a long constant, lcmp, a switch. -/
section GX
variable {mt : Mt} {d : Nat} {P : PV → Mem → Prop} {pc nx tg : Nat} {lv st rest : List PV} {M : Mem}
theorem gV_min {x y : Int} (hl : lk pc mt.2.2.2.2.2 = some (nx, tg, .invokestatic 121)) (ho : mt.1.cls = RX5) (hx : rng x) (hy : rng y) (hz : (noL rest && Nat.ble rest.length 8) = true) (kk : gV mt (d + 1) P nx lv (vI (if y < x then y else x) :: rest) M) : gV mt (d + 1) P pc lv (vI y :: vI x :: rest) M := by
  intro p l e R s m args below meth c cells slots Q D ad A H0 cs C H locs ls hP hS hL
  have C' := C
  obtain ⟨c1, c2, c3, c4, c5, c6, c7, c8, c9, c10⟩ := C
  obtain ⟨r1, r2, r3⟩ := row_of c9 hl
  dsimp only [iln] at r1 r2
  subst r2
  obtain ⟨w1, w2, w3, w4⟩ := wd_min
  rw [Bool.and_eq_true] at hz
  have hz2 : rest.length ≤ 8 := Nat.le_of_ble_eq_true hz.2
  have k1 := kk p l e R s m args below meth c cells slots Q D ad A H0 cs C' H locs ls hP hS hL
  have e1 : cv ad (vI (if y < x then y else x)) = .int (if Int32.ofInt y < Int32.ofInt x then Int32.ofInt y else Int32.ofInt x) := by
    simp only [cv, i32_lt hy hx]
    split <;> rfl
  simp only [List.map_cons, e1] at k1
  rw [ho] at c4
  exact va_mmin c1 c2 (c3.trans hL.2.1.symm) c4 (c5 _ w1) (c5 _ w2) (c5 _ w3) (c5 _ w4) (by have := c8.1; omega) (by rw [noL_sum ad rest hz.1]; have := c8.2.1; omega) c8.2.2.1 c8.2.2.2 r1 k1
def mcp (M : Mem) (a b : Nat) (n : Int) : Mem := fun r i => if r = b ∧ 0 ≤ i ∧ i < n then M a i else M r i
theorem wld_set2 {cs : Cs} {ad : Nat → Nat} {M M' : Mem} {r : Nat} {sh : Shp} {E : va_E} (h : shp r = some sh) (hM : ∀ r', r' ≠ r → M' r' = M r') (hE : E = cel cs ad M' r sh) : (wld cs ad M).set r (ad r, E) = wld cs ad M' := by
  subst hE
  apply List.ext_getElem?
  intro k
  unfold shp at h
  rw [shf_eq] at h
  have hl : r < shL.length := (List.getElem?_eq_some_iff.mp h).1
  by_cases hk : k = r
  · subst hk
    rw [List.getElem?_set_self (by simpa [wld] using hl)]
    simp [wld, List.getElem?_mapIdx, h]
  · rw [List.getElem?_set_ne (fun q => hk q.symm)]
    simp only [wld, List.getElem?_mapIdx]
    cases shL[k]? with
    | none => rfl
    | some sh' =>
      have e := hM k hk
      simp only [Option.map_some, Option.some.injEq, Prod.mk.injEq, true_and]
      rcases sh' with ⟨ci, fs⟩ | ⟨q, n⟩
      · simp [cel, fvl, e]
      · match q with
        | 0 => simp [cel, e]
        | 1 => simp [cel, e]
        | b + 2 => rfl
theorem gV_copy {a b n : Nat} (hl : lk pc mt.2.2.2.2.2 = some (nx, tg, .invokestatic 101)) (ho : mt.1.cls = RX4) (ha : shp a = some (.inr (0, n))) (hb : shp b = some (.inr (0, n))) (hn : n < 2147483648) (kk : gV mt (d + 1) P nx lv [] (mcp M a b n)) : gV mt (d + 1) P pc lv [vI n, vI 0, vR b, vI 0, vR a] M := by
  intro p l e R s m args below meth c cells slots Q D ad A H0 cs C H locs ls hP hS hL
  have C' := C
  obtain ⟨c1, c2, c3, c4, c5, c6, c7, c8, c9, c10⟩ := C
  obtain ⟨r1, r2, r3⟩ := row_of c9 hl
  dsimp only [iln] at r1 r2
  subst r2
  obtain ⟨w1, w2, w3, w4⟩ := wd_copy
  rw [ho] at c4
  have hnn : (Int32.ofInt (n : Int)).toNatClampNeg = n := by rw [i32_clamp (by omega) (by omega)]; omega
  have h00 : (Int32.ofInt 0).toNatClampNeg = 0 := by decide
  have hlt : ∀ z : Int, rng z → 0 ≤ z → ¬ Int32.ofInt z < 0 := fun z h1 h2 q => by
    have := (i32_lt (x := z) (y := 0) h1 rng_0).mp q
    omega
  refine va_copyi c1 c2 (c3.trans hL.2.1.symm) c4 (c5 _ w1) (c5 _ w2) (c5 _ w3) (c5 _ w4) c6 hP (c7 M) hS a b 0 0 (wld_get ha) (wld_get hb) rfl rfl rfl (hlt 0 rng_0 (by omega)) (hlt 0 rng_0 (by omega)) (hlt n ⟨by omega, by omega⟩ (by omega)) (by rw [h00, hnn]; omega) (by rw [h00, hnn]; omega) (fun i hi => rfl) (by have := c8.1; omega) ?_ r1 (fun H1 locs1 h1 h2 h3 => ?_)
  · have : nativeFrameWords "java/lang/System" "arraycopy" 5 + 11 ≤ 40 := by decide +kernel
    have := c8.2.1
    simp only [List.map_nil, List.sum_nil]
    omega
  · have h1 : va_P D vwCl (wld cs ad (mcp M a b n)) H1 := by
      rw [← wld_set2 (M := M) hb (fun r' h => by funext i; simp [mcp, h]) rfl]
      rw [h00, hnn] at h1
      have e2 : va_cpy (fun j : Nat => Int32.ofInt (M a j)) (fun j : Nat => Int32.ofInt (M b j)) 0 0 n = fun j : Nat => Int32.ofInt (mcp M a b n b j) := by
        funext j
        unfold va_cpy mcp
        by_cases hj : j < n
        · rw [if_pos ⟨by omega, by omega⟩, if_pos ⟨rfl, by omega, by omega⟩]
          simp
        · rw [if_neg (by omega), if_neg (by omega)]
      rw [e2] at h1
      exact h1
    exact kk p l e R s m args below meth c cells slots Q D ad A H0 cs C' H1 locs1 ls h1 h3 hL
theorem gV_ldc (hl : lk pc mt.2.2.2.2.2 = some (nx, tg, .ldc2_w 191)) (ho : mt.1.cls = RX7) (kk : gV mt d P nx lv (vL 100 :: st) M) : gV mt d P pc lv st M := by
  intro p l e R s m args below meth c cells slots Q D ad A H0 cs C H locs ls hP hS hL
  have C' := C
  obtain ⟨c1, c2, c3, c4, c5, c6, c7, c8, c9, c10⟩ := C
  obtain ⟨r1, r2, r3⟩ := row_of c9 hl
  dsimp only [iln] at r1 r2
  subst r2
  rw [ho] at c4
  exact lv_ldc2 c1 c2 c4 (c5 _ wd_long) r1 (kk p l e R s m args below meth c cells slots Q D ad A H0 cs C' H locs ls hP hS hL)
def rng64 (x : Int) : Prop := -9223372036854775808 ≤ x ∧ x ≤ 9223372036854775807
theorem gV_lcmp {x y : Int} (hl : lk pc mt.2.2.2.2.2 = some (nx, tg, .lcmp)) (hx : rng64 x) (hy : rng64 y) (kk : gV mt d P nx lv (vI (if y < x then 1 else if x = y then 0 else -1) :: rest) M) : gV mt d P pc lv (vL y :: vL x :: rest) M := by
  intro p l e R s m args below meth c cells slots Q D ad A H0 cs C H locs ls hP hS hL
  have C' := C
  obtain ⟨c1, c2, c3, c4, c5, c6, c7, c8, c9, c10⟩ := C
  obtain ⟨r1, r2, r3⟩ := row_of c9 hl
  dsimp only [iln] at r1 r2
  subst r2
  have k1 := kk p l e R s m args below meth c cells slots Q D ad A H0 cs C' H locs ls hP hS hL
  have e1 : cv ad (vI (if y < x then 1 else if x = y then 0 else -1)) = .int (lg_cmp (Int64.ofInt x) (Int64.ofInt y)) := by
    have q1 := i64_toInt hx.1 hx.2
    have q2 := i64_toInt hy.1 hy.2
    simp only [cv, lg_cmp, gt_iff_lt, Int64.lt_iff_toInt_lt, ← Int64.toInt_inj, q1, q2]
    split
    · rfl
    · split <;> rfl
  simp only [List.map_cons, e1] at k1
  exact W.lcmp c1 c2 r1 k1
theorem gV_swIn {df lo hi : Int} {os : Array Int} {x off : Int} (tgt : Nat) (hl : lk pc mt.2.2.2.2.2 = some (nx, tg, .tableswitch df lo hi os)) (hx : rng x) (h1 : lo ≤ x) (h2 : x ≤ hi) (ho : os[(x - lo).toNat]? = some off) (ht : (pc : Int) + off = (tgt : Int)) (kk : gV mt d P tgt lv rest M) : gV mt d P pc lv (vI x :: rest) M := by
  intro p l e R s m args below meth c cells slots Q D ad A H0 cs C H locs ls hP hS hL
  have C' := C
  obtain ⟨c1, c2, c3, c4, c5, c6, c7, c8, c9, c10⟩ := C
  obtain ⟨r1, r2, r3⟩ := row_of c9 hl
  exact lv_tableIn c1 c2 r1 (by rw [i32_toInt hx]; omega) (by rw [i32_toInt hx]; omega) (by rw [i32_toInt hx]; exact ho) ht (kk p l e R s m args below meth c cells slots Q D ad A H0 cs C' H locs ls hP hS hL)
theorem gV_swOut {df lo hi : Int} {os : Array Int} {x : Int} (tgt : Nat) (hl : lk pc mt.2.2.2.2.2 = some (nx, tg, .tableswitch df lo hi os)) (hx : rng x) (h1 : x < lo ∨ hi < x) (ht : (pc : Int) + df = (tgt : Int)) (kk : gV mt d P tgt lv rest M) : gV mt d P pc lv (vI x :: rest) M := by
  intro p l e R s m args below meth c cells slots Q D ad A H0 cs C H locs ls hP hS hL
  have C' := C
  obtain ⟨c1, c2, c3, c4, c5, c6, c7, c8, c9, c10⟩ := C
  obtain ⟨r1, r2, r3⟩ := row_of c9 hl
  exact lv_tableOut c1 c2 r1 (by rw [i32_toInt hx]; exact h1) ht (kk p l e R s m args below meth c cells slots Q D ad A H0 cs C' H locs ls hP hS hL)
end GX
