/-! The law, case by case. -/
theorem lW_bipush {X : Cx} {pc nx tg : Nat} {lv st : List PV} {M : Mem} {n : Int} (C : lC X) (hl : lk pc tL_law = some (nx, tg, .bipush n)) (kk : lW X nx lv (vI n :: st) M) : lW X pc lv st M := by
  obtain ⟨p, l, e, R, s, m, args, below, meth, c, cells, slots, Q, D, ad, A, H0, cs, L, xs⟩ := X
  intro H locs ls hP hS hL
  obtain ⟨c1, c2, c3, c4, c5, c6, c7, c8, x1, x2, x3, x4⟩ := C
  obtain ⟨r1, r2, r3⟩ := lrow hl
  dsimp only [iln] at r1 r2
  subst r2
  exact lv_bipush c1 c2 r1 (of_decide_eq_true r3) (kk H locs ls hP hS hL)
set_option maxRecDepth 20000 in
theorem case_link {X : Cx} {M : Mem} {k : Nat} (C : lC X) (hI : INV M k) (hk : (k : Int) ≤ 511) (hL : 4 * (k : Int) + 3 < sL X) (nxt : ∀ M', INV M' ((k : Int) + 1) → lW X 768 [vR 74, vR 0, vR 47, vI (4 * (k : Int))] [] M') : lW X 136 [vR 74, vR 0, vR 47, vI (4 * (k : Int))] [] M := by
  have hB : 1700000 * (k : Int) + 1700000 ≤ 2000000000 := by omega
  have ht : M 5 0 ≤ 900000 := by have := hI.2.2.2; omega
  have hkp : kp M (oLink M (sx X (4 * (k : Int) + 1)) (sx X (4 * (k : Int) + 2))) := kp_link hI.1
  refine lW_aload_n C rfl rfl ?_
  refine lW_aload_n C rfl rfl ?_
  refine lW_iload_n C rfl rfl ?_
  refine lW_iconst C rfl ?_
  refine lW_iadd C rfl ?_
  refine lW_sld C rfl ⟨by omega, by omega⟩ ?_
  refine lW_aload_n C rfl rfl ?_
  refine lW_iload_n C rfl rfl ?_
  refine lW_iconst C rfl ?_
  refine lW_iadd C rfl ?_
  refine lW_sld C rfl ⟨by omega, by omega⟩ ?_
  refine lW_call C (ok_cLink (d := 0) hI.1 (sx_rng X _) (sx_rng X _) ) mX6_link_ok sL_X6_link rfl rfl rfl rfl rfl rfl rfl ?_
  rintro r M1 ⟨rfl, rfl⟩
  refine lW_aload_n C rfl rfl ?_
  refine lW_aload_n C rfl rfl ?_
  refine lW_iload_n C rfl rfl ?_
  refine lW_iconst C rfl ?_
  refine lW_iadd C rfl ?_
  refine lW_sld C rfl ⟨by omega, by omega⟩ ?_
  refine lW_aload_n C rfl rfl ?_
  refine lW_iload_n C rfl rfl ?_
  refine lW_iconst C rfl ?_
  refine lW_iadd C rfl ?_
  refine lW_sld C rfl ⟨by omega, by omega⟩ ?_
  refine lW_call C (ok_mLink (d := 0) hI.1 (sx_rng X _) (sx_rng X _)  (inv_pre hI hkp) hB) mX7_link_ok sL_X7_link rfl rfl rfl rfl rfl rfl rfl ?_
  rintro r M2 ⟨rfl, hR2, hF2⟩
  refine lW_same C rfl ?_
  exact nxt M2 (inv_op hI hkp hR2 hF2)
set_option maxRecDepth 20000 in
theorem case_flow {X : Cx} {M : Mem} {k : Nat} (C : lC X) (hI : INV M k) (hk : (k : Int) ≤ 511) (hL : 4 * (k : Int) + 3 < sL X) (nxt : ∀ M', INV M' ((k : Int) + 1) → lW X 768 [vR 74, vR 0, vR 47, vI (4 * (k : Int))] [] M') : lW X 169 [vR 74, vR 0, vR 47, vI (4 * (k : Int))] [] M := by
  have hB : 1700000 * (k : Int) + 1700000 ≤ 2000000000 := by omega
  have ht : M 5 0 ≤ 900000 := by have := hI.2.2.2; omega
  have hkp : kp M (oFlow M (sx X (4 * (k : Int) + 1))) := kp_flow hI.1
  refine lW_aload_n C rfl rfl ?_
  refine lW_aload_n C rfl rfl ?_
  refine lW_iload_n C rfl rfl ?_
  refine lW_iconst C rfl ?_
  refine lW_iadd C rfl ?_
  refine lW_sld C rfl ⟨by omega, by omega⟩ ?_
  refine lW_call C (ok_cFlow (d := 0) hI.1 (sx_rng X _) ) mX6_flow_ok sL_X6_flow rfl rfl rfl rfl rfl rfl rfl ?_
  rintro r M1 ⟨rfl, rfl⟩
  refine lW_aload_n C rfl rfl ?_
  refine lW_aload_n C rfl rfl ?_
  refine lW_iload_n C rfl rfl ?_
  refine lW_iconst C rfl ?_
  refine lW_iadd C rfl ?_
  refine lW_sld C rfl ⟨by omega, by omega⟩ ?_
  refine lW_call C (ok_mFlow (d := 0) hI.1 (sx_rng X _)  (inv_pre hI hkp) ) mX7_flow_ok sL_X7_flow rfl rfl rfl rfl rfl rfl rfl ?_
  rintro r M2 ⟨rfl, hR2, hF2⟩
  refine lW_same C rfl ?_
  exact nxt M2 (inv_op hI hkp hR2 hF2)
set_option maxRecDepth 20000 in
theorem case_rate {X : Cx} {M : Mem} {k : Nat} (C : lC X) (hI : INV M k) (hk : (k : Int) ≤ 511) (hL : 4 * (k : Int) + 3 < sL X) (nxt : ∀ M', INV M' ((k : Int) + 1) → lW X 768 [vR 74, vR 0, vR 47, vI (4 * (k : Int))] [] M') : lW X 192 [vR 74, vR 0, vR 47, vI (4 * (k : Int))] [] M := by
  have hB : 1700000 * (k : Int) + 1700000 ≤ 2000000000 := by omega
  have ht : M 5 0 ≤ 900000 := by have := hI.2.2.2; omega
  have hkp : kp M (oRate M (sx X (4 * (k : Int) + 1)) (sx X (4 * (k : Int) + 2))) := kp_rate hI.1
  refine lW_aload_n C rfl rfl ?_
  refine lW_aload_n C rfl rfl ?_
  refine lW_iload_n C rfl rfl ?_
  refine lW_iconst C rfl ?_
  refine lW_iadd C rfl ?_
  refine lW_sld C rfl ⟨by omega, by omega⟩ ?_
  refine lW_aload_n C rfl rfl ?_
  refine lW_iload_n C rfl rfl ?_
  refine lW_iconst C rfl ?_
  refine lW_iadd C rfl ?_
  refine lW_sld C rfl ⟨by omega, by omega⟩ ?_
  refine lW_call C (ok_cRate (d := 0) hI.1 (sx_rng X _) (sx_rng X _) ) mX6_rate_ok sL_X6_rate rfl rfl rfl rfl rfl rfl rfl ?_
  rintro r M1 ⟨rfl, rfl⟩
  refine lW_aload_n C rfl rfl ?_
  refine lW_aload_n C rfl rfl ?_
  refine lW_iload_n C rfl rfl ?_
  refine lW_iconst C rfl ?_
  refine lW_iadd C rfl ?_
  refine lW_sld C rfl ⟨by omega, by omega⟩ ?_
  refine lW_aload_n C rfl rfl ?_
  refine lW_iload_n C rfl rfl ?_
  refine lW_iconst C rfl ?_
  refine lW_iadd C rfl ?_
  refine lW_sld C rfl ⟨by omega, by omega⟩ ?_
  refine lW_call C (ok_mRate (d := 0) hI.1 (sx_rng X _) (sx_rng X _)  (inv_pre hI hkp) hB) mX7_rate_ok sL_X7_rate rfl rfl rfl rfl rfl rfl rfl ?_
  rintro r M2 ⟨rfl, hR2, hF2⟩
  refine lW_same C rfl ?_
  exact nxt M2 (inv_op hI hkp hR2 hF2)
set_option maxRecDepth 20000 in
theorem case_pin {X : Cx} {M : Mem} {k : Nat} (C : lC X) (hI : INV M k) (hk : (k : Int) ≤ 511) (hL : 4 * (k : Int) + 3 < sL X) (nxt : ∀ M', INV M' ((k : Int) + 1) → lW X 768 [vR 74, vR 0, vR 47, vI (4 * (k : Int))] [] M') : lW X 225 [vR 74, vR 0, vR 47, vI (4 * (k : Int))] [] M := by
  have hB : 1700000 * (k : Int) + 1700000 ≤ 2000000000 := by omega
  have ht : M 5 0 ≤ 900000 := by have := hI.2.2.2; omega
  have hkp : kp M (oPin M (sx X (4 * (k : Int) + 1)) (sx X (4 * (k : Int) + 2))) := kp_pin hI.1
  refine lW_aload_n C rfl rfl ?_
  refine lW_aload_n C rfl rfl ?_
  refine lW_iload_n C rfl rfl ?_
  refine lW_iconst C rfl ?_
  refine lW_iadd C rfl ?_
  refine lW_sld C rfl ⟨by omega, by omega⟩ ?_
  refine lW_aload_n C rfl rfl ?_
  refine lW_iload_n C rfl rfl ?_
  refine lW_iconst C rfl ?_
  refine lW_iadd C rfl ?_
  refine lW_sld C rfl ⟨by omega, by omega⟩ ?_
  refine lW_call C (ok_cPin (d := 0) hI.1 (sx_rng X _) (sx_rng X _) ) mX6_pin_ok sL_X6_pin rfl rfl rfl rfl rfl rfl rfl ?_
  rintro r M1 ⟨rfl, rfl⟩
  refine lW_aload_n C rfl rfl ?_
  refine lW_aload_n C rfl rfl ?_
  refine lW_iload_n C rfl rfl ?_
  refine lW_iconst C rfl ?_
  refine lW_iadd C rfl ?_
  refine lW_sld C rfl ⟨by omega, by omega⟩ ?_
  refine lW_aload_n C rfl rfl ?_
  refine lW_iload_n C rfl rfl ?_
  refine lW_iconst C rfl ?_
  refine lW_iadd C rfl ?_
  refine lW_sld C rfl ⟨by omega, by omega⟩ ?_
  refine lW_call C (ok_mPin (d := 0) hI.1 (sx_rng X _) (sx_rng X _)  (inv_pre hI hkp) hB) mX7_pin_ok sL_X7_pin rfl rfl rfl rfl rfl rfl rfl ?_
  rintro r M2 ⟨rfl, hR2, hF2⟩
  refine lW_same C rfl ?_
  exact nxt M2 (inv_op hI hkp hR2 hF2)
set_option maxRecDepth 20000 in
theorem case_hash {X : Cx} {M : Mem} {k : Nat} (C : lC X) (hI : INV M k) (hk : (k : Int) ≤ 511) (hL : 4 * (k : Int) + 3 < sL X) (nxt : ∀ M', INV M' ((k : Int) + 1) → lW X 768 [vR 74, vR 0, vR 47, vI (4 * (k : Int))] [] M') : lW X 258 [vR 74, vR 0, vR 47, vI (4 * (k : Int))] [] M := by
  have hB : 1700000 * (k : Int) + 1700000 ≤ 2000000000 := by omega
  have ht : M 5 0 ≤ 900000 := by have := hI.2.2.2; omega
  have hkp : kp M (oHash M (sx X (4 * (k : Int) + 1)) (sx X (4 * (k : Int) + 2))) := kp_hash hI.1
  refine lW_aload_n C rfl rfl ?_
  refine lW_aload_n C rfl rfl ?_
  refine lW_iload_n C rfl rfl ?_
  refine lW_iconst C rfl ?_
  refine lW_iadd C rfl ?_
  refine lW_sld C rfl ⟨by omega, by omega⟩ ?_
  refine lW_aload_n C rfl rfl ?_
  refine lW_iload_n C rfl rfl ?_
  refine lW_iconst C rfl ?_
  refine lW_iadd C rfl ?_
  refine lW_sld C rfl ⟨by omega, by omega⟩ ?_
  refine lW_call C (ok_cHash (d := 0) hI.1 (sx_rng X _) (sx_rng X _) ) mX6_hash_ok sL_X6_hash rfl rfl rfl rfl rfl rfl rfl ?_
  rintro r M1 ⟨rfl, rfl⟩
  refine lW_aload_n C rfl rfl ?_
  refine lW_aload_n C rfl rfl ?_
  refine lW_iload_n C rfl rfl ?_
  refine lW_iconst C rfl ?_
  refine lW_iadd C rfl ?_
  refine lW_sld C rfl ⟨by omega, by omega⟩ ?_
  refine lW_aload_n C rfl rfl ?_
  refine lW_iload_n C rfl rfl ?_
  refine lW_iconst C rfl ?_
  refine lW_iadd C rfl ?_
  refine lW_sld C rfl ⟨by omega, by omega⟩ ?_
  refine lW_call C (ok_mHash (d := 0) hI.1 (sx_rng X _) (sx_rng X _)  (inv_pre hI hkp) hB) mX7_hash_ok sL_X7_hash rfl rfl rfl rfl rfl rfl rfl ?_
  rintro r M2 ⟨rfl, hR2, hF2⟩
  refine lW_same C rfl ?_
  exact nxt M2 (inv_op hI hkp hR2 hF2)
set_option maxRecDepth 20000 in
theorem case_send {X : Cx} {M : Mem} {k : Nat} (C : lC X) (hI : INV M k) (hk : (k : Int) ≤ 511) (hL : 4 * (k : Int) + 3 < sL X) (nxt : ∀ M', INV M' ((k : Int) + 1) → lW X 768 [vR 74, vR 0, vR 47, vI (4 * (k : Int))] [] M') : lW X 330 [vR 74, vR 0, vR 47, vI (4 * (k : Int))] [] M := by
  have hB : 1700000 * (k : Int) + 1700000 ≤ 2000000000 := by omega
  have ht : M 5 0 ≤ 900000 := by have := hI.2.2.2; omega
  have hkp : kp M (oSend M (sx X (4 * (k : Int) + 1)) (sx X (4 * (k : Int) + 2))) := kp_send hI.1
  refine lW_aload_n C rfl rfl ?_
  refine lW_aload_n C rfl rfl ?_
  refine lW_iload_n C rfl rfl ?_
  refine lW_iconst C rfl ?_
  refine lW_iadd C rfl ?_
  refine lW_sld C rfl ⟨by omega, by omega⟩ ?_
  refine lW_aload_n C rfl rfl ?_
  refine lW_iload_n C rfl rfl ?_
  refine lW_iconst C rfl ?_
  refine lW_iadd C rfl ?_
  refine lW_sld C rfl ⟨by omega, by omega⟩ ?_
  refine lW_call C (ok_cSend (d := 0) hI.1 (sx_rng X _) (sx_rng X _) ) mX6_send_ok sL_X6_send rfl rfl rfl rfl rfl rfl rfl ?_
  rintro r M1 ⟨rfl, rfl⟩
  refine lW_aload_n C rfl rfl ?_
  refine lW_aload_n C rfl rfl ?_
  refine lW_iload_n C rfl rfl ?_
  refine lW_iconst C rfl ?_
  refine lW_iadd C rfl ?_
  refine lW_sld C rfl ⟨by omega, by omega⟩ ?_
  refine lW_aload_n C rfl rfl ?_
  refine lW_iload_n C rfl rfl ?_
  refine lW_iconst C rfl ?_
  refine lW_iadd C rfl ?_
  refine lW_sld C rfl ⟨by omega, by omega⟩ ?_
  refine lW_call C (ok_mSend (d := 0) hI.1 (sx_rng X _) (sx_rng X _)  (inv_pre hI hkp) hB) mX7_send_ok sL_X7_send rfl rfl rfl rfl rfl rfl rfl ?_
  rintro r M2 ⟨rfl, hR2, hF2⟩
  refine lW_same C rfl ?_
  exact nxt M2 (inv_op hI hkp hR2 hF2)
set_option maxRecDepth 20000 in
theorem case_tick {X : Cx} {M : Mem} {k : Nat} (C : lC X) (hI : INV M k) (hk : (k : Int) ≤ 511) (hL : 4 * (k : Int) + 3 < sL X) (nxt : ∀ M', INV M' ((k : Int) + 1) → lW X 768 [vR 74, vR 0, vR 47, vI (4 * (k : Int))] [] M') : lW X 363 [vR 74, vR 0, vR 47, vI (4 * (k : Int))] [] M := by
  have hB : 1700000 * (k : Int) + 1700000 ≤ 2000000000 := by omega
  have ht : M 5 0 ≤ 900000 := by have := hI.2.2.2; omega
  have hkp : kp M (oTick M (sx X (4 * (k : Int) + 1))) := kp_tick hI.1 ht
  refine lW_aload_n C rfl rfl ?_
  refine lW_aload_n C rfl rfl ?_
  refine lW_iload_n C rfl rfl ?_
  refine lW_iconst C rfl ?_
  refine lW_iadd C rfl ?_
  refine lW_sld C rfl ⟨by omega, by omega⟩ ?_
  refine lW_call C (ok_cTick (d := 0) hI.1 (sx_rng X _) ht) mX6_tick_ok sL_X6_tick rfl rfl rfl rfl rfl rfl rfl ?_
  rintro r M1 ⟨rfl, rfl⟩
  refine lW_aload_n C rfl rfl ?_
  refine lW_aload_n C rfl rfl ?_
  refine lW_iload_n C rfl rfl ?_
  refine lW_iconst C rfl ?_
  refine lW_iadd C rfl ?_
  refine lW_sld C rfl ⟨by omega, by omega⟩ ?_
  refine lW_call C (ok_mTick (d := 0) hI.1 (sx_rng X _) ht (inv_pre hI hkp) hB) mX7_tick_ok sL_X7_tick rfl rfl rfl rfl rfl rfl rfl ?_
  rintro r M2 ⟨rfl, hR2, hF2⟩
  refine lW_same C rfl ?_
  exact nxt M2 (inv_op hI hkp hR2 hF2)
set_option maxRecDepth 20000 in
theorem case_move {X : Cx} {M : Mem} {k : Nat} (C : lC X) (hI : INV M k) (hk : (k : Int) ≤ 511) (hL : 4 * (k : Int) + 3 < sL X) (nxt : ∀ M', INV M' ((k : Int) + 1) → lW X 768 [vR 74, vR 0, vR 47, vI (4 * (k : Int))] [] M') : lW X 386 [vR 74, vR 0, vR 47, vI (4 * (k : Int))] [] M := by
  have hB : 1700000 * (k : Int) + 1700000 ≤ 2000000000 := by omega
  have ht : M 5 0 ≤ 900000 := by have := hI.2.2.2; omega
  have hkp : kp M (oMove M (sx X (4 * (k : Int) + 1)) (sx X (4 * (k : Int) + 2)) (sx X (4 * (k : Int) + 3))) := kp_move hI.1
  refine lW_aload_n C rfl rfl ?_
  refine lW_aload_n C rfl rfl ?_
  refine lW_iload_n C rfl rfl ?_
  refine lW_iconst C rfl ?_
  refine lW_iadd C rfl ?_
  refine lW_sld C rfl ⟨by omega, by omega⟩ ?_
  refine lW_aload_n C rfl rfl ?_
  refine lW_iload_n C rfl rfl ?_
  refine lW_iconst C rfl ?_
  refine lW_iadd C rfl ?_
  refine lW_sld C rfl ⟨by omega, by omega⟩ ?_
  refine lW_aload_n C rfl rfl ?_
  refine lW_iload_n C rfl rfl ?_
  refine lW_iconst C rfl ?_
  refine lW_iadd C rfl ?_
  refine lW_sld C rfl ⟨by omega, by omega⟩ ?_
  refine lW_call C (ok_cMove (d := 0) hI.1 (sx_rng X _) (sx_rng X _) (sx_rng X _) ) mX6_move_ok sL_X6_move rfl rfl rfl rfl rfl rfl rfl ?_
  rintro r M1 ⟨rfl, rfl⟩
  refine lW_aload_n C rfl rfl ?_
  refine lW_aload_n C rfl rfl ?_
  refine lW_iload_n C rfl rfl ?_
  refine lW_iconst C rfl ?_
  refine lW_iadd C rfl ?_
  refine lW_sld C rfl ⟨by omega, by omega⟩ ?_
  refine lW_aload_n C rfl rfl ?_
  refine lW_iload_n C rfl rfl ?_
  refine lW_iconst C rfl ?_
  refine lW_iadd C rfl ?_
  refine lW_sld C rfl ⟨by omega, by omega⟩ ?_
  refine lW_aload_n C rfl rfl ?_
  refine lW_iload_n C rfl rfl ?_
  refine lW_iconst C rfl ?_
  refine lW_iadd C rfl ?_
  refine lW_sld C rfl ⟨by omega, by omega⟩ ?_
  refine lW_call C (ok_mMove (d := 0) hI.1 (sx_rng X _) (sx_rng X _) (sx_rng X _)  (inv_pre hI hkp) hB) mX7_move_ok sL_X7_move rfl rfl rfl rfl rfl rfl rfl ?_
  rintro r M2 ⟨rfl, hR2, hF2⟩
  refine lW_same C rfl ?_
  exact nxt M2 (inv_op hI hkp hR2 hF2)
set_option maxRecDepth 20000 in
theorem case_drop {X : Cx} {M : Mem} {k : Nat} (C : lC X) (hI : INV M k) (hk : (k : Int) ≤ 511) (hL : 4 * (k : Int) + 3 < sL X) (nxt : ∀ M', INV M' ((k : Int) + 1) → lW X 768 [vR 74, vR 0, vR 47, vI (4 * (k : Int))] [] M') : lW X 429 [vR 74, vR 0, vR 47, vI (4 * (k : Int))] [] M := by
  have hB : 1700000 * (k : Int) + 1700000 ≤ 2000000000 := by omega
  have ht : M 5 0 ≤ 900000 := by have := hI.2.2.2; omega
  have hkp : kp M (oDrop M (sx X (4 * (k : Int) + 1))) := kp_drop hI.1
  refine lW_aload_n C rfl rfl ?_
  refine lW_aload_n C rfl rfl ?_
  refine lW_iload_n C rfl rfl ?_
  refine lW_iconst C rfl ?_
  refine lW_iadd C rfl ?_
  refine lW_sld C rfl ⟨by omega, by omega⟩ ?_
  refine lW_call C (ok_cDrop (d := 0) hI.1 (sx_rng X _) ) mX6_drop_ok sL_X6_drop rfl rfl rfl rfl rfl rfl rfl ?_
  rintro r M1 ⟨rfl, rfl⟩
  refine lW_aload_n C rfl rfl ?_
  refine lW_aload_n C rfl rfl ?_
  refine lW_iload_n C rfl rfl ?_
  refine lW_iconst C rfl ?_
  refine lW_iadd C rfl ?_
  refine lW_sld C rfl ⟨by omega, by omega⟩ ?_
  refine lW_call C (ok_mDrop (d := 0) hI.1 (sx_rng X _)  (inv_pre hI hkp) ) mX7_drop_ok sL_X7_drop rfl rfl rfl rfl rfl rfl rfl ?_
  rintro r M2 ⟨rfl, hR2, hF2⟩
  refine lW_same C rfl ?_
  exact nxt M2 (inv_op hI hkp hR2 hF2)
set_option maxRecDepth 20000 in
theorem case_fail {X : Cx} {M : Mem} {k : Nat} (C : lC X) (hI : INV M k) (hk : (k : Int) ≤ 511) (hL : 4 * (k : Int) + 3 < sL X) (nxt : ∀ M', INV M' ((k : Int) + 1) → lW X 768 [vR 74, vR 0, vR 47, vI (4 * (k : Int))] [] M') : lW X 452 [vR 74, vR 0, vR 47, vI (4 * (k : Int))] [] M := by
  have hB : 1700000 * (k : Int) + 1700000 ≤ 2000000000 := by omega
  have ht : M 5 0 ≤ 900000 := by have := hI.2.2.2; omega
  have hkp : kp M (oFail M (sx X (4 * (k : Int) + 1))) := kp_fail hI.1
  refine lW_aload_n C rfl rfl ?_
  refine lW_aload_n C rfl rfl ?_
  refine lW_iload_n C rfl rfl ?_
  refine lW_iconst C rfl ?_
  refine lW_iadd C rfl ?_
  refine lW_sld C rfl ⟨by omega, by omega⟩ ?_
  refine lW_call C (ok_cFail (d := 0) hI.1 (sx_rng X _) ) mX6_fail_ok sL_X6_fail rfl rfl rfl rfl rfl rfl rfl ?_
  rintro r M1 ⟨rfl, rfl⟩
  refine lW_aload_n C rfl rfl ?_
  refine lW_aload_n C rfl rfl ?_
  refine lW_iload_n C rfl rfl ?_
  refine lW_iconst C rfl ?_
  refine lW_iadd C rfl ?_
  refine lW_sld C rfl ⟨by omega, by omega⟩ ?_
  refine lW_call C (ok_mFail (d := 0) hI.1 (sx_rng X _)  (inv_pre hI hkp) hB) mX7_fail_ok sL_X7_fail rfl rfl rfl rfl rfl rfl rfl ?_
  rintro r M2 ⟨rfl, hR2, hF2⟩
  refine lW_same C rfl ?_
  exact nxt M2 (inv_op hI hkp hR2 hF2)
set_option maxRecDepth 20000 in
theorem case_back {X : Cx} {M : Mem} {k : Nat} (C : lC X) (hI : INV M k) (hk : (k : Int) ≤ 511) (hL : 4 * (k : Int) + 3 < sL X) (nxt : ∀ M', INV M' ((k : Int) + 1) → lW X 768 [vR 74, vR 0, vR 47, vI (4 * (k : Int))] [] M') : lW X 475 [vR 74, vR 0, vR 47, vI (4 * (k : Int))] [] M := by
  have hB : 1700000 * (k : Int) + 1700000 ≤ 2000000000 := by omega
  have ht : M 5 0 ≤ 900000 := by have := hI.2.2.2; omega
  have hkp : kp M (oBack M (sx X (4 * (k : Int) + 1))) := kp_back hI.1
  refine lW_aload_n C rfl rfl ?_
  refine lW_aload_n C rfl rfl ?_
  refine lW_iload_n C rfl rfl ?_
  refine lW_iconst C rfl ?_
  refine lW_iadd C rfl ?_
  refine lW_sld C rfl ⟨by omega, by omega⟩ ?_
  refine lW_call C (ok_cBack (d := 0) hI.1 (sx_rng X _) ) mX6_back_ok sL_X6_back rfl rfl rfl rfl rfl rfl rfl ?_
  rintro r M1 ⟨rfl, rfl⟩
  refine lW_aload_n C rfl rfl ?_
  refine lW_aload_n C rfl rfl ?_
  refine lW_iload_n C rfl rfl ?_
  refine lW_iconst C rfl ?_
  refine lW_iadd C rfl ?_
  refine lW_sld C rfl ⟨by omega, by omega⟩ ?_
  refine lW_call C (ok_mBack (d := 0) hI.1 (sx_rng X _)  (inv_pre hI hkp) hB) mX7_back_ok sL_X7_back rfl rfl rfl rfl rfl rfl rfl ?_
  rintro r M2 ⟨rfl, hR2, hF2⟩
  refine lW_same C rfl ?_
  exact nxt M2 (inv_op hI hkp hR2 hF2)
set_option maxRecDepth 20000 in
theorem case_letter {X : Cx} {M : Mem} {k : Nat} (C : lC X) (hI : INV M k) (hk : (k : Int) ≤ 511) (hL : 4 * (k : Int) + 3 < sL X) (nxt : ∀ M', INV M' ((k : Int) + 1) → lW X 768 [vR 74, vR 0, vR 47, vI (4 * (k : Int))] [] M') : lW X 498 [vR 74, vR 0, vR 47, vI (4 * (k : Int))] [] M := by
  have hB : 1700000 * (k : Int) + 1700000 ≤ 2000000000 := by omega
  have ht : M 5 0 ≤ 900000 := by have := hI.2.2.2; omega
  have hkp : kp M ((rLetter M (sx X (4 * (k : Int) + 1)) (sx X (4 * (k : Int) + 2)), M)) := kp_same hI.1
  refine lW_aload_n C rfl rfl ?_
  refine lW_aload_n C rfl rfl ?_
  refine lW_iload_n C rfl rfl ?_
  refine lW_iconst C rfl ?_
  refine lW_iadd C rfl ?_
  refine lW_sld C rfl ⟨by omega, by omega⟩ ?_
  refine lW_aload_n C rfl rfl ?_
  refine lW_iload_n C rfl rfl ?_
  refine lW_iconst C rfl ?_
  refine lW_iadd C rfl ?_
  refine lW_sld C rfl ⟨by omega, by omega⟩ ?_
  refine lW_call C (ok_cLetter (d := 0) hI.1 (sx_rng X _) (sx_rng X _) ) mX6_letter_ok sL_X6_letter rfl rfl rfl rfl rfl rfl rfl ?_
  rintro r M1 ⟨rfl, rfl⟩
  refine lW_aload_n C rfl rfl ?_
  refine lW_aload_n C rfl rfl ?_
  refine lW_iload_n C rfl rfl ?_
  refine lW_iconst C rfl ?_
  refine lW_iadd C rfl ?_
  refine lW_sld C rfl ⟨by omega, by omega⟩ ?_
  refine lW_aload_n C rfl rfl ?_
  refine lW_iload_n C rfl rfl ?_
  refine lW_iconst C rfl ?_
  refine lW_iadd C rfl ?_
  refine lW_sld C rfl ⟨by omega, by omega⟩ ?_
  refine lW_call C (ok_mLetter (d := 0) hI.1 (sx_rng X _) (sx_rng X _)  (inv_pre hI hkp) ) mX7_letter_ok sL_X7_letter rfl rfl rfl rfl rfl rfl rfl ?_
  rintro r M2 ⟨rfl, hR2, hF2⟩
  refine lW_same C rfl ?_
  exact nxt M2 (inv_op hI hkp hR2 hF2)
set_option maxRecDepth 20000 in
theorem case_about {X : Cx} {M : Mem} {k : Nat} (C : lC X) (hI : INV M k) (hk : (k : Int) ≤ 511) (hL : 4 * (k : Int) + 3 < sL X) (nxt : ∀ M', INV M' ((k : Int) + 1) → lW X 768 [vR 74, vR 0, vR 47, vI (4 * (k : Int))] [] M') : lW X 531 [vR 74, vR 0, vR 47, vI (4 * (k : Int))] [] M := by
  have hB : 1700000 * (k : Int) + 1700000 ≤ 2000000000 := by omega
  have ht : M 5 0 ≤ 900000 := by have := hI.2.2.2; omega
  have hkp : kp M ((rAbout M (sx X (4 * (k : Int) + 1)) (sx X (4 * (k : Int) + 2)), M)) := kp_same hI.1
  refine lW_aload_n C rfl rfl ?_
  refine lW_aload_n C rfl rfl ?_
  refine lW_iload_n C rfl rfl ?_
  refine lW_iconst C rfl ?_
  refine lW_iadd C rfl ?_
  refine lW_sld C rfl ⟨by omega, by omega⟩ ?_
  refine lW_aload_n C rfl rfl ?_
  refine lW_iload_n C rfl rfl ?_
  refine lW_iconst C rfl ?_
  refine lW_iadd C rfl ?_
  refine lW_sld C rfl ⟨by omega, by omega⟩ ?_
  refine lW_call C (ok_cAbout (d := 0) hI.1 (sx_rng X _) (sx_rng X _) ) mX6_about_ok sL_X6_about rfl rfl rfl rfl rfl rfl rfl ?_
  rintro r M1 ⟨rfl, rfl⟩
  refine lW_aload_n C rfl rfl ?_
  refine lW_aload_n C rfl rfl ?_
  refine lW_iload_n C rfl rfl ?_
  refine lW_iconst C rfl ?_
  refine lW_iadd C rfl ?_
  refine lW_sld C rfl ⟨by omega, by omega⟩ ?_
  refine lW_aload_n C rfl rfl ?_
  refine lW_iload_n C rfl rfl ?_
  refine lW_iconst C rfl ?_
  refine lW_iadd C rfl ?_
  refine lW_sld C rfl ⟨by omega, by omega⟩ ?_
  refine lW_call C (ok_mAbout (d := 0) hI.1 (sx_rng X _) (sx_rng X _)  (inv_pre hI hkp) hB) mX7_about_ok sL_X7_about rfl rfl rfl rfl rfl rfl rfl ?_
  rintro r M2 ⟨rfl, hR2, hF2⟩
  refine lW_same C rfl ?_
  exact nxt M2 (inv_op hI hkp hR2 hF2)
set_option maxRecDepth 20000 in
theorem case_bucket {X : Cx} {M : Mem} {k : Nat} (C : lC X) (hI : INV M k) (hk : (k : Int) ≤ 511) (hL : 4 * (k : Int) + 3 < sL X) (nxt : ∀ M', INV M' ((k : Int) + 1) → lW X 768 [vR 74, vR 0, vR 47, vI (4 * (k : Int))] [] M') : lW X 564 [vR 74, vR 0, vR 47, vI (4 * (k : Int))] [] M := by
  have hB : 1700000 * (k : Int) + 1700000 ≤ 2000000000 := by omega
  have ht : M 5 0 ≤ 900000 := by have := hI.2.2.2; omega
  have hkp : kp M ((rBucket M (sx X (4 * (k : Int) + 1)) (sx X (4 * (k : Int) + 2)), M)) := kp_same hI.1
  refine lW_aload_n C rfl rfl ?_
  refine lW_aload_n C rfl rfl ?_
  refine lW_iload_n C rfl rfl ?_
  refine lW_iconst C rfl ?_
  refine lW_iadd C rfl ?_
  refine lW_sld C rfl ⟨by omega, by omega⟩ ?_
  refine lW_aload_n C rfl rfl ?_
  refine lW_iload_n C rfl rfl ?_
  refine lW_iconst C rfl ?_
  refine lW_iadd C rfl ?_
  refine lW_sld C rfl ⟨by omega, by omega⟩ ?_
  refine lW_call C (ok_cBucket (d := 0) hI.1 (sx_rng X _) (sx_rng X _) ) mX6_bucket_ok sL_X6_bucket rfl rfl rfl rfl rfl rfl rfl ?_
  rintro r M1 ⟨rfl, rfl⟩
  refine lW_aload_n C rfl rfl ?_
  refine lW_aload_n C rfl rfl ?_
  refine lW_iload_n C rfl rfl ?_
  refine lW_iconst C rfl ?_
  refine lW_iadd C rfl ?_
  refine lW_sld C rfl ⟨by omega, by omega⟩ ?_
  refine lW_aload_n C rfl rfl ?_
  refine lW_iload_n C rfl rfl ?_
  refine lW_iconst C rfl ?_
  refine lW_iadd C rfl ?_
  refine lW_sld C rfl ⟨by omega, by omega⟩ ?_
  refine lW_call C (ok_mBucket (d := 0) hI.1 (sx_rng X _) (sx_rng X _)  (inv_pre hI hkp) hB) mX7_bucket_ok sL_X7_bucket rfl rfl rfl rfl rfl rfl rfl ?_
  rintro r M2 ⟨rfl, hR2, hF2⟩
  refine lW_same C rfl ?_
  exact nxt M2 (inv_op hI hkp hR2 hF2)
set_option maxRecDepth 20000 in
theorem case_ofFlow {X : Cx} {M : Mem} {k : Nat} (C : lC X) (hI : INV M k) (hk : (k : Int) ≤ 511) (hL : 4 * (k : Int) + 3 < sL X) (nxt : ∀ M', INV M' ((k : Int) + 1) → lW X 768 [vR 74, vR 0, vR 47, vI (4 * (k : Int))] [] M') : lW X 597 [vR 74, vR 0, vR 47, vI (4 * (k : Int))] [] M := by
  have hB : 1700000 * (k : Int) + 1700000 ≤ 2000000000 := by omega
  have ht : M 5 0 ≤ 900000 := by have := hI.2.2.2; omega
  have hkp : kp M ((rOfFlow M (sx X (4 * (k : Int) + 1)) (sx X (4 * (k : Int) + 2)), M)) := kp_same hI.1
  refine lW_aload_n C rfl rfl ?_
  refine lW_aload_n C rfl rfl ?_
  refine lW_iload_n C rfl rfl ?_
  refine lW_iconst C rfl ?_
  refine lW_iadd C rfl ?_
  refine lW_sld C rfl ⟨by omega, by omega⟩ ?_
  refine lW_aload_n C rfl rfl ?_
  refine lW_iload_n C rfl rfl ?_
  refine lW_iconst C rfl ?_
  refine lW_iadd C rfl ?_
  refine lW_sld C rfl ⟨by omega, by omega⟩ ?_
  refine lW_call C (ok_cOfFlow (d := 0) hI.1 (sx_rng X _) (sx_rng X _) ) mX6_ofFlow_ok sL_X6_ofFlow rfl rfl rfl rfl rfl rfl rfl ?_
  rintro r M1 ⟨rfl, rfl⟩
  refine lW_aload_n C rfl rfl ?_
  refine lW_aload_n C rfl rfl ?_
  refine lW_iload_n C rfl rfl ?_
  refine lW_iconst C rfl ?_
  refine lW_iadd C rfl ?_
  refine lW_sld C rfl ⟨by omega, by omega⟩ ?_
  refine lW_aload_n C rfl rfl ?_
  refine lW_iload_n C rfl rfl ?_
  refine lW_iconst C rfl ?_
  refine lW_iadd C rfl ?_
  refine lW_sld C rfl ⟨by omega, by omega⟩ ?_
  refine lW_call C (ok_mOfFlow (d := 0) hI.1 (sx_rng X _) (sx_rng X _)  (inv_pre hI hkp) hB) mX7_ofFlow_ok sL_X7_ofFlow rfl rfl rfl rfl rfl rfl rfl ?_
  rintro r M2 ⟨rfl, hR2, hF2⟩
  refine lW_same C rfl ?_
  exact nxt M2 (inv_op hI hkp hR2 hF2)
set_option maxRecDepth 20000 in
theorem case_out {X : Cx} {M : Mem} {k : Nat} (C : lC X) (hI : INV M k) (hk : (k : Int) ≤ 511) (hL : 4 * (k : Int) + 3 < sL X) (nxt : ∀ M', INV M' ((k : Int) + 1) → lW X 768 [vR 74, vR 0, vR 47, vI (4 * (k : Int))] [] M') : lW X 630 [vR 74, vR 0, vR 47, vI (4 * (k : Int))] [] M := by
  have hB : 1700000 * (k : Int) + 1700000 ≤ 2000000000 := by omega
  have ht : M 5 0 ≤ 900000 := by have := hI.2.2.2; omega
  have hkp : kp M ((rOut M (sx X (4 * (k : Int) + 1)), M)) := kp_same hI.1
  refine lW_aload_n C rfl rfl ?_
  refine lW_aload_n C rfl rfl ?_
  refine lW_iload_n C rfl rfl ?_
  refine lW_iconst C rfl ?_
  refine lW_iadd C rfl ?_
  refine lW_sld C rfl ⟨by omega, by omega⟩ ?_
  refine lW_call C (ok_cOut (d := 0) hI.1 (sx_rng X _) ) mX6_out_ok sL_X6_out rfl rfl rfl rfl rfl rfl rfl ?_
  rintro r M1 ⟨rfl, rfl⟩
  refine lW_aload_n C rfl rfl ?_
  refine lW_aload_n C rfl rfl ?_
  refine lW_iload_n C rfl rfl ?_
  refine lW_iconst C rfl ?_
  refine lW_iadd C rfl ?_
  refine lW_sld C rfl ⟨by omega, by omega⟩ ?_
  refine lW_call C (ok_mOut (d := 0) hI.1 (sx_rng X _)  (inv_pre hI hkp) ) mX7_out_ok sL_X7_out rfl rfl rfl rfl rfl rfl rfl ?_
  rintro r M2 ⟨rfl, hR2, hF2⟩
  refine lW_same C rfl ?_
  exact nxt M2 (inv_op hI hkp hR2 hF2)
set_option maxRecDepth 20000 in
theorem case_ordered {X : Cx} {M : Mem} {k : Nat} (C : lC X) (hI : INV M k) (hk : (k : Int) ≤ 511) (hL : 4 * (k : Int) + 3 < sL X) (nxt : ∀ M', INV M' ((k : Int) + 1) → lW X 768 [vR 74, vR 0, vR 47, vI (4 * (k : Int))] [] M') : lW X 653 [vR 74, vR 0, vR 47, vI (4 * (k : Int))] [] M := by
  have hB : 1700000 * (k : Int) + 1700000 ≤ 2000000000 := by omega
  have ht : M 5 0 ≤ 900000 := by have := hI.2.2.2; omega
  have hkp : kp M ((rOrdered M (sx X (4 * (k : Int) + 1)), M)) := kp_same hI.1
  refine lW_aload_n C rfl rfl ?_
  refine lW_aload_n C rfl rfl ?_
  refine lW_iload_n C rfl rfl ?_
  refine lW_iconst C rfl ?_
  refine lW_iadd C rfl ?_
  refine lW_sld C rfl ⟨by omega, by omega⟩ ?_
  refine lW_call C (ok_cOrdered (d := 0) hI.1 (sx_rng X _) ) mX6_ordered_ok sL_X6_ordered rfl rfl rfl rfl rfl rfl rfl ?_
  rintro r M1 ⟨rfl, rfl⟩
  refine lW_aload_n C rfl rfl ?_
  refine lW_aload_n C rfl rfl ?_
  refine lW_iload_n C rfl rfl ?_
  refine lW_iconst C rfl ?_
  refine lW_iadd C rfl ?_
  refine lW_sld C rfl ⟨by omega, by omega⟩ ?_
  refine lW_call C (ok_mOrdered (d := 0) hI.1 (sx_rng X _)  (inv_pre hI hkp) hB) mX7_ordered_ok sL_X7_ordered rfl rfl rfl rfl rfl rfl rfl ?_
  rintro r M2 ⟨rfl, hR2, hF2⟩
  refine lW_same C rfl ?_
  exact nxt M2 (inv_op hI hkp hR2 hF2)
set_option maxRecDepth 20000 in
theorem case_told {X : Cx} {M : Mem} {k : Nat} (C : lC X) (hI : INV M k) (hk : (k : Int) ≤ 511) (hL : 4 * (k : Int) + 3 < sL X) (nxt : ∀ M', INV M' ((k : Int) + 1) → lW X 768 [vR 74, vR 0, vR 47, vI (4 * (k : Int))] [] M') : lW X 676 [vR 74, vR 0, vR 47, vI (4 * (k : Int))] [] M := by
  have hB : 1700000 * (k : Int) + 1700000 ≤ 2000000000 := by omega
  have ht : M 5 0 ≤ 900000 := by have := hI.2.2.2; omega
  have hkp : kp M ((rTold M (sx X (4 * (k : Int) + 1)), M)) := kp_same hI.1
  refine lW_aload_n C rfl rfl ?_
  refine lW_aload_n C rfl rfl ?_
  refine lW_iload_n C rfl rfl ?_
  refine lW_iconst C rfl ?_
  refine lW_iadd C rfl ?_
  refine lW_sld C rfl ⟨by omega, by omega⟩ ?_
  refine lW_call C (ok_cTold (d := 0) hI.1 (sx_rng X _) ) mX6_told_ok sL_X6_told rfl rfl rfl rfl rfl rfl rfl ?_
  rintro r M1 ⟨rfl, rfl⟩
  refine lW_aload_n C rfl rfl ?_
  refine lW_aload_n C rfl rfl ?_
  refine lW_iload_n C rfl rfl ?_
  refine lW_iconst C rfl ?_
  refine lW_iadd C rfl ?_
  refine lW_sld C rfl ⟨by omega, by omega⟩ ?_
  refine lW_call C (ok_mTold (d := 0) hI.1 (sx_rng X _)  (inv_pre hI hkp) hB) mX7_told_ok sL_X7_told rfl rfl rfl rfl rfl rfl rfl ?_
  rintro r M2 ⟨rfl, hR2, hF2⟩
  refine lW_same C rfl ?_
  exact nxt M2 (inv_op hI hkp hR2 hF2)
set_option maxRecDepth 20000 in
theorem case_plan {X : Cx} {M : Mem} {k : Nat} (C : lC X) (hI : INV M k) (hk : (k : Int) ≤ 511) (hL : 4 * (k : Int) + 3 < sL X) (nxt : ∀ M', INV M' ((k : Int) + 1) → lW X 768 [vR 74, vR 0, vR 47, vI (4 * (k : Int))] [] M') : lW X 745 [vR 74, vR 0, vR 47, vI (4 * (k : Int))] [] M := by
  have hB : 1700000 * (k : Int) + 1700000 ≤ 2000000000 := by omega
  have ht : M 5 0 ≤ 900000 := by have := hI.2.2.2; omega
  have hkp : kp M ((rPlan M (sx X (4 * (k : Int) + 1)), M)) := kp_same hI.1
  refine lW_aload_n C rfl rfl ?_
  refine lW_aload_n C rfl rfl ?_
  refine lW_iload_n C rfl rfl ?_
  refine lW_iconst C rfl ?_
  refine lW_iadd C rfl ?_
  refine lW_sld C rfl ⟨by omega, by omega⟩ ?_
  refine lW_call C (ok_cPlan (d := 0) hI.1 (sx_rng X _) ) mX6_plan_ok sL_X6_plan rfl rfl rfl rfl rfl rfl rfl ?_
  rintro r M1 ⟨rfl, rfl⟩
  refine lW_aload_n C rfl rfl ?_
  refine lW_aload_n C rfl rfl ?_
  refine lW_iload_n C rfl rfl ?_
  refine lW_iconst C rfl ?_
  refine lW_iadd C rfl ?_
  refine lW_sld C rfl ⟨by omega, by omega⟩ ?_
  refine lW_call C (ok_mPlan (d := 0) hI.1 (sx_rng X _)  (inv_pre hI hkp) ) mX7_plan_ok sL_X7_plan rfl rfl rfl rfl rfl rfl rfl ?_
  rintro r M2 ⟨rfl, hR2, hF2⟩
  refine lW_same C rfl ?_
  exact nxt M2 (inv_op hI hkp hR2 hF2)
set_option maxRecDepth 20000 in
theorem case_even {X : Cx} {M : Mem} {k : Nat} (C : lC X) (hI : INV M k) (hk : (k : Int) ≤ 511) (hL : 4 * (k : Int) + 3 < sL X) (nxt : ∀ M', INV M' ((k : Int) + 1) → lW X 768 [vR 74, vR 0, vR 47, vI (4 * (k : Int))] [] M') : lW X 699 [vR 74, vR 0, vR 47, vI (4 * (k : Int))] [] M := by
  have hB : 1700000 * (k : Int) ≤ 2000000000 := by omega
  refine lW_aload_n C rfl rfl ?_
  refine lW_aload_n C rfl rfl ?_
  refine lW_iload_n C rfl rfl ?_
  refine lW_iconst C rfl ?_
  refine lW_iadd C rfl ?_
  refine lW_sld C rfl ⟨by omega, by omega⟩ ?_
  refine lW_call C (ok_cEven (d := 0) hI.1 (sx_rng X _)) mX6_even_ok sL_X6_even rfl rfl rfl rfl rfl rfl rfl ?_
  rintro r M1 ⟨hm, v, rfl, hv⟩
  refine lW_aload_n C rfl rfl ?_
  refine lW_aload_n C rfl rfl ?_
  refine lW_iload_n C rfl rfl ?_
  refine lW_iconst C rfl ?_
  refine lW_iadd C rfl ?_
  refine lW_sld C rfl ⟨by omega, by omega⟩ ?_
  refine lW_call C (ok_mEven (d := 0) hI.1 (sx_rng X _) (ev_pre hI hm) hB) mX7_even_ok sL_X7_even rfl rfl rfl rfl rfl rfl rfl ?_
  rintro r M2 ⟨hR2, hF2, v', rfl, hv'⟩
  rw [evA_fun hv hv']
  refine lW_same C rfl ?_
  exact nxt M2 (inv_even hI hm hR2 hF2)
set_option maxRecDepth 20000 in
theorem case_least {X : Cx} {M : Mem} {k : Nat} (C : lC X) (hI : INV M k) (hk : (k : Int) ≤ 511) (hL : 4 * (k : Int) + 3 < sL X) (nxt : ∀ M', INV M' ((k : Int) + 1) → lW X 768 [vR 74, vR 0, vR 47, vI (4 * (k : Int))] [] M') : lW X 722 [vR 74, vR 0, vR 47, vI (4 * (k : Int))] [] M := by
  have hB : 1700000 * (k : Int) ≤ 2000000000 := by omega
  refine lW_aload_n C rfl rfl ?_
  refine lW_aload_n C rfl rfl ?_
  refine lW_iload_n C rfl rfl ?_
  refine lW_iconst C rfl ?_
  refine lW_iadd C rfl ?_
  refine lW_sld C rfl ⟨by omega, by omega⟩ ?_
  refine lW_call C (ok_cLeast (d := 0) hI.1 (sx_rng X _) hI.2.2.1) mX6_least_ok sL_X6_least rfl rfl rfl rfl rfl rfl rfl ?_
  rintro r M1 ⟨hm, v, rfl, hv⟩
  refine lW_aload_n C rfl rfl ?_
  refine lW_aload_n C rfl rfl ?_
  refine lW_iload_n C rfl rfl ?_
  refine lW_iconst C rfl ?_
  refine lW_iadd C rfl ?_
  refine lW_sld C rfl ⟨by omega, by omega⟩ ?_
  refine lW_call C (ok_mLeast (d := 0) hI.1 (sx_rng X _) (ls_pre hI hm) hB) mX7_least_ok sL_X7_least rfl rfl rfl rfl rfl rfl rfl ?_
  rintro r M2 ⟨g1, g2, v', rfl, hv'⟩
  obtain ⟨e1, e2⟩ := inv_least hI hm hv g1 g2 hv'
  rw [e1]
  refine lW_same C rfl ?_
  exact nxt M2 e2
set_option maxRecDepth 20000 in
theorem case_numbers {X : Cx} {M : Mem} {k : Nat} (C : lC X) (hI : INV M k) (hk : (k : Int) ≤ 511) (hL : 4 * (k : Int) + 3 < sL X) (nxt : ∀ M', INV M' ((k : Int) + 1) → lW X 768 [vR 74, vR 0, vR 47, vI (4 * (k : Int))] [] M') : lW X 291 [vR 74, vR 0, vR 47, vI (4 * (k : Int))] [] M := by
  have hB : 1700000 * (k : Int) + 1700000 ≤ 2000000000 := by omega
  have go : ∀ v : Int, (v = 0 ∨ v = 1) → (v = 0 ↔ sx X (4 * (k : Int) + 1) = 0) → lW X 291 [vR 74, vR 0, vR 47, vI (4 * (k : Int))] [] M := by
    intro v hv hvx
    have hkp : kp M (oNumbers M v) := kp_numbers hI.1 hv
    refine lW_aload_n C rfl rfl ?_
    refine lW_aload_n C rfl rfl ?_
    refine lW_iload_n C rfl rfl ?_
    refine lW_iconst C rfl ?_
    refine lW_iadd C rfl ?_
    refine lW_sld C rfl ⟨by omega, by omega⟩ ?_
    have two : ∀ M1 : Mem, M1 = (oNumbers M v).2 → lW X 322 [vR 74, vR 0, vR 47, vI (4 * (k : Int))] [vI v, vR 47, vI (oNumbers M v).1] M1 := by
      rintro M1 rfl
      refine lW_call C (ok_mNumbers (d := 0) hI.1 hv (inv_pre hI hkp) hB) mX7_numbers_ok sL_X7_numbers rfl rfl rfl rfl rfl rfl rfl ?_
      rintro r M2 ⟨rfl, hR2, hF2⟩
      refine lW_same C rfl ?_
      exact nxt M2 (inv_op hI hkp hR2 hF2)
    have one : lW X 305 [vR 74, vR 0, vR 47, vI (4 * (k : Int))] [vI v, vR 0] M := by
      refine lW_call C (ok_cNumbers (d := 0) hI.1 hv) mX6_numbers_ok sL_X6_numbers rfl rfl rfl rfl rfl rfl rfl ?_
      rintro r M1 ⟨rfl, rfl⟩
      refine lW_aload_n C rfl rfl ?_
      refine lW_aload_n C rfl rfl ?_
      refine lW_iload_n C rfl rfl ?_
      refine lW_iconst C rfl ?_
      refine lW_iadd C rfl ?_
      refine lW_sld C rfl ⟨by omega, by omega⟩ ?_
      refine lW_eq0 C rfl (sx_rng X _) (fun h => ?_) (fun h => ?_)
      · have e : v = 0 := hvx.mpr h
        subst e
        refine lW_iconst C rfl ?_
        exact two _ rfl
      · have e : v = 1 := by rcases hv with q | q; exact absurd (hvx.mp q) h; exact q
        subst e
        refine lW_iconst C rfl (lW_goto C rfl ?_)
        exact two _ rfl
    refine lW_eq0 C rfl (sx_rng X _) (fun h => ?_) (fun h => ?_)
    · have e : v = 0 := hvx.mpr h
      subst e
      refine lW_iconst C rfl ?_
      exact one
    · have e : v = 1 := by rcases hv with q | q; exact absurd (hvx.mp q) h; exact q
      subst e
      refine lW_iconst C rfl (lW_goto C rfl ?_)
      exact one
  by_cases hz : sx X (4 * (k : Int) + 1) = 0
  · exact go 0 (Or.inl rfl) ⟨fun _ => hz, fun _ => rfl⟩
  · exact go 1 (Or.inr rfl) ⟨fun q => by omega, fun q => absurd q hz⟩
set_option maxRecDepth 20000 in
theorem law_loop {X : Cx} (C : lC X) (kend : ∀ (M : Mem) (i : Int), lW X 774 [vR 74, vR 0, vR 47, vI i] [] M) : ∀ (n k : Nat) (M : Mem), n + k = 513 → INV M k → lW X 18 [vR 74, vR 0, vR 47, vI (4 * (k : Int))] [] M := by
  have hL : sL X ≤ 2048 := by
    obtain ⟨p, l, e, R, s, m, args, below, meth, c, cells, slots, Q, D, ad, A, H0, cs, L, xs⟩ := X
    exact C.2.2.2.2.2.2.2.2.2.2.2
  intro n
  induction n with
  | zero =>
    intro k M hk hI
    refine lW_iload_n C rfl rfl (lW_aload_n C rfl rfl (lW_len C rfl (lW_iconst C rfl (lW_isub C rfl ?_))))
    refine lW_gt C rfl (by unfold rng; omega) (by unfold rng; omega) (fun _ => kend M _) (fun q => ?_)
    omega
  | succ n ih =>
    intro k M hk hI
    refine lW_iload_n C rfl rfl (lW_aload_n C rfl rfl (lW_len C rfl (lW_iconst C rfl (lW_isub C rfl ?_))))
    refine lW_gt C rfl (by unfold rng; omega) (by unfold rng; omega) (fun _ => kend M _) (fun q => ?_)
    have hk2 : (k : Int) ≤ 511 := by omega
    have h3 : 4 * (k : Int) + 3 < sL X := by omega
    have nxt : ∀ M', INV M' ((k : Int) + 1) → lW X 768 [vR 74, vR 0, vR 47, vI (4 * (k : Int))] [] M' := by
      intro M' hI'
      refine lW_iinc C rfl rfl (by simp) (lW_goto C rfl ?_)
      have := ih (k + 1) M' (by omega) (by push_cast; exact hI')
      rw [show 4 * ((k + 1 : Nat) : Int) = 4 * (k : Int) + 4 by push_cast; omega] at this
      exact this
    refine lW_aload_n C rfl rfl (lW_iload_n C rfl rfl (lW_sld C rfl ⟨by omega, by omega⟩ (lW_bipush C rfl (lW_and31 C rfl ?_))))
    intro v v0 v1
    by_cases hv : v ≤ 21
    · have hcs : v = 0 ∨ v = 1 ∨ v = 2 ∨ v = 3 ∨ v = 4 ∨ v = 5 ∨ v = 6 ∨ v = 7 ∨ v = 8 ∨ v = 9 ∨ v = 10 ∨ v = 11 ∨ v = 12 ∨ v = 13 ∨ v = 14 ∨ v = 15 ∨ v = 16 ∨ v = 17 ∨ v = 18 ∨ v = 19 ∨ v = 20 ∨ v = 21 := by omega
      rcases hcs with rfl | rfl | rfl | rfl | rfl | rfl | rfl | rfl | rfl | rfl | rfl | rfl | rfl | rfl | rfl | rfl | rfl | rfl | rfl | rfl | rfl | rfl
      · exact lW_swIn C 136 rfl (by unfold rng; omega) (by decide) (by decide) rfl (by decide) (case_link C hI hk2 h3 nxt)
      · exact lW_swIn C 169 rfl (by unfold rng; omega) (by decide) (by decide) rfl (by decide) (case_flow C hI hk2 h3 nxt)
      · exact lW_swIn C 192 rfl (by unfold rng; omega) (by decide) (by decide) rfl (by decide) (case_rate C hI hk2 h3 nxt)
      · exact lW_swIn C 225 rfl (by unfold rng; omega) (by decide) (by decide) rfl (by decide) (case_pin C hI hk2 h3 nxt)
      · exact lW_swIn C 258 rfl (by unfold rng; omega) (by decide) (by decide) rfl (by decide) (case_hash C hI hk2 h3 nxt)
      · exact lW_swIn C 291 rfl (by unfold rng; omega) (by decide) (by decide) rfl (by decide) (case_numbers C hI hk2 h3 nxt)
      · exact lW_swIn C 330 rfl (by unfold rng; omega) (by decide) (by decide) rfl (by decide) (case_send C hI hk2 h3 nxt)
      · exact lW_swIn C 363 rfl (by unfold rng; omega) (by decide) (by decide) rfl (by decide) (case_tick C hI hk2 h3 nxt)
      · exact lW_swIn C 386 rfl (by unfold rng; omega) (by decide) (by decide) rfl (by decide) (case_move C hI hk2 h3 nxt)
      · exact lW_swIn C 429 rfl (by unfold rng; omega) (by decide) (by decide) rfl (by decide) (case_drop C hI hk2 h3 nxt)
      · exact lW_swIn C 452 rfl (by unfold rng; omega) (by decide) (by decide) rfl (by decide) (case_fail C hI hk2 h3 nxt)
      · exact lW_swIn C 475 rfl (by unfold rng; omega) (by decide) (by decide) rfl (by decide) (case_back C hI hk2 h3 nxt)
      · exact lW_swIn C 498 rfl (by unfold rng; omega) (by decide) (by decide) rfl (by decide) (case_letter C hI hk2 h3 nxt)
      · exact lW_swIn C 531 rfl (by unfold rng; omega) (by decide) (by decide) rfl (by decide) (case_about C hI hk2 h3 nxt)
      · exact lW_swIn C 564 rfl (by unfold rng; omega) (by decide) (by decide) rfl (by decide) (case_bucket C hI hk2 h3 nxt)
      · exact lW_swIn C 597 rfl (by unfold rng; omega) (by decide) (by decide) rfl (by decide) (case_ofFlow C hI hk2 h3 nxt)
      · exact lW_swIn C 630 rfl (by unfold rng; omega) (by decide) (by decide) rfl (by decide) (case_out C hI hk2 h3 nxt)
      · exact lW_swIn C 653 rfl (by unfold rng; omega) (by decide) (by decide) rfl (by decide) (case_ordered C hI hk2 h3 nxt)
      · exact lW_swIn C 676 rfl (by unfold rng; omega) (by decide) (by decide) rfl (by decide) (case_told C hI hk2 h3 nxt)
      · exact lW_swIn C 699 rfl (by unfold rng; omega) (by decide) (by decide) rfl (by decide) (case_even C hI hk2 h3 nxt)
      · exact lW_swIn C 722 rfl (by unfold rng; omega) (by decide) (by decide) rfl (by decide) (case_least C hI hk2 h3 nxt)
      · exact lW_swIn C 745 rfl (by unfold rng; omega) (by decide) (by decide) rfl (by decide) (case_plan C hI hk2 h3 nxt)
    · refine lW_swOut C 768 rfl (by unfold rng; omega) (by omega) (by decide) (nxt M ?_)
      exact ⟨hI.1, RM_B hI.2.1 (by omega), hI.2.2.1, by have := hI.2.2.2; omega⟩
