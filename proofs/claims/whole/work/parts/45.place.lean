/-! The class's search for a plan. -/
theorem mcp_o {M : Mem} {a b : Nat} {n : Int} {r : Nat} (h : r ≠ b) : mcp M a b n r = M r := by funext i; unfold mcp; rw [if_neg (fun q => h q.1)]
theorem mcp_s {M : Mem} {a b : Nat} {n i : Int} : mcp M a b n b i = if 0 ≤ i ∧ i < n then M a i else M b i := by
  unfold mcp
  by_cases c : 0 ≤ i ∧ i < n
  · rw [if_pos ⟨rfl, c⟩, if_pos c]
  · rw [if_neg (fun q => c q.2), if_neg c]
def Pl (S M : Mem) : Prop := (∀ r, r ≠ 6 → r ≠ 43 → r ≠ 45 → r ≠ 46 → M r = S r) ∧ (∀ i, i ≠ 0 → i ≠ 11 → M 6 i = S 6 i)
def PlC (S : Mem) : Prop := (0 ≤ S 1 0 ∧ S 1 0 ≤ 4) ∧ (∀ l, S 9 l = 0 ∨ S 9 l = 1) ∧ vld (S 9) (S 1 0) (S 19) 8 ∧ (∀ i : Int, 0 ≤ i → i < 8 → 0 ≤ S 44 i ∧ S 44 i ≤ 1600) ∧ sm (S 44) 8 ≤ 1600 ∧ (0 ≤ S 6 8 ∧ S 6 8 ≤ 32) ∧ (0 ≤ S 6 9 ∧ S 6 9 ≤ 1600) ∧ (0 ≤ S 6 10 ∧ S 6 10 ≤ 1000) ∧ (∀ l, 0 ≤ S 7 l ∧ S 7 l ≤ 8)
abbrev Ev (S : Mem) : (Int → Int) → Prop := evn (S 6 8) (S 6 9) (S 6 10) (S 7) (S 9) (S 1 0) (S 44)
abbrev Mv (S : Mem) : (Int → Int) → Int := fun s => mvN (S 19) s 8
abbrev Qp (S : Mem) (t : Int → Int) (b : Nat) : (Int → Int) → Prop := Qb (S 9) (S 1 0) (S 44) (S 19) t b
def PI (S M : Mem) (b : Nat) (m : Int) : Prop := Pl S M ∧ vld (S 9) (S 1 0) (M 46) b ∧ (∀ l, 0 ≤ l → l < 4 → M 45 l = ldN (S 44) (M 46) l b) ∧ m = mvN (S 19) (M 46) b ∧ m < M 6 11 ∧ M 6 11 ≤ 9 ∧ (∀ l, 0 ≤ l → l < S 1 0 → S 9 l = 1 → wth (S 6 8) (S 6 9) (S 6 10) (S 7) l (ldN (S 44) (M 46) l b))
def PO (S M : Mem) (b : Nat) : PV → Mem → Prop := fun r M' => r = none ∧ Pl S M' ∧ M' 45 = M 45 ∧ (∀ j : Int, 0 ≤ j → j < b → M' 46 j = M 46 j) ∧ Imp (Ev S) (Qp S (M 46) b) (Mv S) (M 6 11) (M 6 0) (M 43) (M' 6 11) (M' 6 0) (M' 43)
theorem on_of {D : Nat} {M : Mem} {b l m : Int} {P : PV → Mem → Prop} (b0 : 0 ≤ b) (b8 : b < 8) (hp : gOk mX4_place D [vR 6, vI (b + 1), vI m] (mw M 46 b l) P) (hn : ∀ r M', P r M' → r = none) : gOk mX4_placeOn (D + 1) [vR 6, vI l, vI b, vI m] M P := by
  refine gOk_of mX4_placeOn_ok (by simp) (Nat.le_of_ble_eq_true rfl) ?_
  repeat (refine gV_s rfl (by first | exact trivial | omega) ?_)
  refine gV_cV hp mX4_place_ok sX4_X4_place rfl rfl rfl rfl rfl rfl ?_
  intro r M' h
  have := hn r M' h
  subst this
  exact gV_retv rfl trivial h
theorem place_end {d : Nat} {S M : Mem} {m : Int} (hI : PI S M 8 m) : gOk mX4_place (d + 2) [vR 6, vI (8 : Nat), vI m] M (PO S M 8) := by
  obtain ⟨⟨p1, p2⟩, v1, v2, v3, v4, v5, v6⟩ := hI
  refine gOk_of mX4_place_ok (by simp) (Nat.le_of_ble_eq_true rfl) ?_
  repeat (refine gV_s rfl (by first | exact trivial | omega) ?_)
  refine gV_in rfl (by unfold rng; omega) (by omega) ?_
  repeat (refine gV_s rfl (by first | exact trivial | omega) ?_)
  refine gV_cV (ok_keep (d := d) (M := M) (m := m) (P := fun r M' => r = none ∧ M' = mw (mcp (mw M 6 11 m) 46 43 8) 6 0 1) ⟨rfl, rfl⟩) mX4_keep_ok sX4_X4_keep rfl rfl rfl rfl rfl rfl ?_
  rintro r M' ⟨rfl, rfl⟩
  refine gV_retv rfl trivial ⟨rfl, ⟨fun r a1 a2 a3 a4 => ?_, fun i a1 a2 => ?_⟩, ?_, fun j _ _ => ?_, Or.inr ⟨?_, ?_, M 46, ⟨v1, fun j _ _ => rfl, fun j a b => by omega⟩, v6, ?_, fun j => ?_, fun s hs _ => Or.inr ⟨?_, ?_⟩⟩⟩
  · rw [mw_rn _ _ _ a1, mcp_o a2, mw_rn _ _ _ a1]; exact p1 r a1 a2 a3 a4
  · rw [mw_rs, up1_n _ _ a1, mcp_o (by decide), mw_rs, up1_n _ _ a2]; exact p2 i a1 a2
  · rw [mw_rn _ _ _ (by decide), mcp_o (by decide), mw_rn _ _ _ (by decide)]
  · rw [mw_rn _ _ _ (by decide), mcp_o (by decide), mw_rn _ _ _ (by decide)]
  · rw [mw_rs, up1_n _ _ (by decide), mcp_o (by decide), mw_rs, up1_s]; exact v4
  · rw [mw_rs, up1_s]
  · rw [mw_rs, up1_n _ _ (by decide), mcp_o (by decide), mw_rs, up1_s]; exact v3.symm
  · rw [mw_rn _ _ _ (by decide), mcp_s, mw_rn _ _ _ (by decide), mw_rn _ _ _ (by decide)]
  · rw [mw_rs, up1_n _ _ (by decide), mcp_o (by decide), mw_rs, up1_s, v3]
    exact (mvN_cong (fun b b0 b1 => hs.2.1 b b0 b1)).symm
  · exact Int.le_of_eq (rk_cong (fun b b0 b1 => (hs.2.1 b b0 b1).symm))
theorem mvN_up {on t : Int → Int} {b : Nat} {l : Int} : mvN on (up1 t b l) (b + 1) = mvN on t b + (if l = on b then 0 else 1) := by
  unfold mvN
  rw [ct_s, ct_cong (q := fun j => decide (t j ≠ on j)) (fun j a c => by rw [up1_n _ _ (by omega)]), up1_s]
  by_cases e : l = on b
  · rw [if_pos e, if_neg (by simp [e])]
  · rw [if_neg e, if_pos (by simp [e])]
theorem ldN_up {w t : Int → Int} {b : Nat} {l l' : Int} : ldN w (up1 t b l) l' (b + 1) = ldN w t l' b + (if l = l' then w b else 0) := by
  unfold ldN
  rw [sm_s, sm_cong (g := fun j => if t j = l' then w j else 0) (fun j a c => by rw [up1_n _ _ (by omega)]), up1_s]
theorem place_all {S : Mem} (hC : PlC S) : ∀ (n b : Nat), b + n = 8 → ∀ (d : Nat) (M : Mem) (m : Int), PI S M b m → gOk mX4_place (d + (2 * n + 2)) [vR 6, vI b, vI m] M (PO S M b) := by
  obtain ⟨cL, cu, con, cw, cW, cA, cB, ck, cs⟩ := hC
  have cw0 : ∀ i : Int, 0 ≤ i → i < 8 → 0 ≤ S 44 i := fun i a b => (cw i a b).1
  intro n
  induction n with
  | zero =>
    intro b hb d M m hI
    have e : b = 8 := by omega
    subst e
    exact place_end hI
  | succ n ih =>
    intro b hb d M m hI
    rw [show d + (2 * (n + 1) + 2) = d + (2 * n + 2) + 1 + 1 by omega]
    obtain ⟨⟨p1, p2⟩, v1, v2, v3, v4, v5, v6⟩ := id hI
    obtain ⟨f0, fL, fu⟩ := con b (by omega) (by omega)
    have e19 : M 19 b = S 19 b := by rw [p1 19 (by decide) (by decide) (by decide) (by decide)]
    have e9 : M 9 (S 19 b) = S 9 (S 19 b) := by rw [p1 9 (by decide) (by decide) (by decide) (by decide)]
    have e44 : M 44 b = S 44 b := by rw [p1 44 (by decide) (by decide) (by decide) (by decide)]
    have hwb := cw b (by omega) (by omega)
    have m0 : 0 ≤ m := by rw [v3]; exact ct_nn _ _ |>.1
    refine gOk_of mX4_place_ok (by simp) (Nat.le_of_ble_eq_true rfl) ?_
    repeat (refine gV_s rfl (by first | exact trivial | omega) ?_)
    refine gV_it rfl (by unfold rng; omega) (by omega) ?_
    repeat (refine gV_s rfl (by first | exact trivial | omega) ?_)
    rw [e19]
    refine gV_in rfl (by unfold rng; omega) (by omega) ?_
    repeat (refine gV_s rfl (by first | exact trivial | omega) ?_)
    rw [e9, fu]
    refine gV_in rfl (by unfold rng; omega) (by omega) ?_
    repeat (refine gV_s rfl (by first | exact trivial | omega) ?_)
    rw [e44]
    refine gV_i rfl (by unfold rng; omega) (fun hw0 => ?_) (fun hw0 => ?_)
    · have hI2 : PI S (mw M 46 b (S 19 b)) (b + 1) m := by
        refine ⟨⟨fun r a1 a2 a3 a4 => by rw [mw_rn _ _ _ a4]; exact p1 r a1 a2 a3 a4, fun i a1 a2 => by rw [mw_rn _ _ _ (by decide)]; exact p2 i a1 a2⟩, ?_, ?_, ?_, ?_, ?_, ?_⟩
        · rw [mw_rs]
          intro j j0 j1
          rw [up1_e]
          split
          · exact ⟨f0, fL, fu⟩
          · exact v1 j j0 (by push_cast at j1; omega)
        · intro l l0 l4
          rw [mw_rs, mw_rn _ _ _ (by decide), ldN_up, v2 l l0 l4, hw0]
          split <;> omega
        · rw [mw_rs, mvN_up, if_pos rfl, v3]; omega
        · rw [mw_rn _ _ _ (by decide)]; exact v4
        · rw [mw_rn _ _ _ (by decide)]; exact v5
        · intro l l0 lL hu
          rw [mw_rs, ldN_up, hw0]
          have := v6 l l0 lL hu
          split
          · rw [Int.add_zero]; exact this
          · rw [Int.add_zero]; exact this
      have hp := ih (b + 1) (by omega) d (mw M 46 b (S 19 b)) m hI2
      rw [show (((b + 1 : Nat) : Int)) = (b : Int) + 1 by push_cast; rfl] at hp
      repeat (refine gV_s rfl (by first | exact trivial | omega) ?_)
      refine gV_cV (on_of (b := (b : Int)) (l := S 19 b) (m := m) (by omega) (by omega) hp (fun r M' h => h.1)) mX4_placeOn_ok sX4_X4_placeOn rfl rfl rfl rfl rfl rfl ?_
      rintro r M' ⟨rfl, o1, o2, o3, o4⟩
      refine gV_retv rfl trivial ⟨rfl, o1, ?_, fun j j0 j1 => ?_, ?_⟩
      · rw [o2, mw_rn _ _ _ (by decide)]
      · rw [o3 j j0 (by push_cast; omega), mw_rs, up1_n _ _ (by omega)]
      · rw [mw_rs, mw_rn _ _ _ (show (6 : Nat) ≠ 46 by decide), mw_rn _ _ _ (show (43 : Nat) ≠ 46 by decide)] at o4
        refine Imp_iff (fun s => ?_) o4
        constructor
        · rintro ⟨a1, a2, a3⟩
          refine ⟨a1, fun j j0 j1 => ?_, fun j j0 j1 hw => ?_⟩
          · rw [a2 j j0 (by push_cast; omega), up1_n _ _ (by omega)]
          · by_cases e : j = b
            · subst e
              rw [a2 b (by omega) (by push_cast; omega), up1_s]
            · exact a3 j (by push_cast; omega) j1 hw
        · rintro ⟨a1, a2, a3⟩
          refine ⟨a1, fun j j0 j1 => ?_, fun j j0 j1 hw => a3 j (by push_cast at j0; omega) j1 hw⟩
          rw [up1_e]
          split
          · rename_i e; rw [e]; exact a3 b (by omega) (by omega) hw0
          · exact a2 j j0 (by push_cast at j1; omega)
    · have loop : ∀ (q l : Nat) (M' : Mem) (z : PV), (l : Int) + q = S 1 0 → Pl S M' → M' 45 = M 45 → (∀ j : Int, 0 ≤ j → j < b → M' 46 j = M 46 j) → Imp (Ev S) (fun s => Qp S (M 46) b s ∧ s b < l) (Mv S) (M 6 11) (M 6 0) (M 43) (M' 6 11) (M' 6 0) (M' 43) →
          gV mX4_place (d + (2 * n + 2) + 1 + 1) (PO S M b) 69 [vR 6, vI b, vI m, vI (S 19 b), vI l, z] [vI (S 1 0), vI l] M' := by
        intro q
        induction q with
        | zero =>
          intro l M' z hl hP h45 h46 hImp
          refine gV_it rfl (by unfold rng; omega) (by omega) ?_
          refine gV_retv rfl trivial ⟨rfl, hP, h45, h46, Imp_iff (fun s => ⟨fun a => a.1, fun a => ⟨a, ?_⟩⟩) hImp⟩
          have := a.1 b (by omega) (by omega)
          omega
        | succ q ihq =>
          intro l M' z hl hP h45 h46 hImp
          obtain ⟨q1, q2⟩ := id hP
          have g1 : M' 1 0 = S 1 0 := by rw [q1 1 (by decide) (by decide) (by decide) (by decide)]
          have g9 : M' 9 l = S 9 l := by rw [q1 9 (by decide) (by decide) (by decide) (by decide)]
          have g44 : M' 44 b = S 44 b := by rw [q1 44 (by decide) (by decide) (by decide) (by decide)]
          have hF9 : M' 6 11 ≤ 9 := by have := Imp_le hImp; omega
          have hul := cu l
          have adv : ∀ (M2 : Mem) (z : PV), Pl S M2 → M2 45 = M 45 → (∀ j : Int, 0 ≤ j → j < b → M2 46 j = M 46 j) → Imp (Ev S) (fun s => Qp S (M 46) b s ∧ s b = l) (Mv S) (M' 6 11) (M' 6 0) (M' 43) (M2 6 11) (M2 6 0) (M2 43) → gV mX4_place (d + (2 * n + 2) + 1 + 1) (PO S M b) 169 [vR 6, vI b, vI m, vI (S 19 b), vI l, z] [] M2 := by
            intro M2 z hP2 h452 h462 hI2
            have := Imp_tr hImp hI2 (fun s1 s2 a1 a2 => by
              have e : rk s1 b = rk s2 b := rk_cong (fun j j0 j1 => by rw [a1.1.2.1 j j0 j1, a2.1.2.1 j j0 j1])
              have lt : rk s1 (b + 1) < rk s2 (b + 1) := by
                simp only [rk]
                have h1 := a1.2
                have h2 := a2.2
                omega
              have := rk_lt (vld_dig cL.2 a1.1.1) (vld_dig cL.2 a2.1.1) lt n (by omega)
              rw [show b + 1 + n = 8 by omega] at this
              omega)
            have e1 : M2 1 0 = S 1 0 := by rw [hP2.1 1 (by decide) (by decide) (by decide) (by decide)]
            repeat (refine gV_s rfl (by first | exact trivial | omega) ?_)
            rw [e1]
            refine ihq (l + 1) M2 z (by push_cast; omega) hP2 h452 h462 (Imp_iff (fun s => ?_) this)
            constructor
            · rintro (a | a)
              · exact ⟨a.1, by have := a.2; push_cast; omega⟩
              · exact ⟨a.1, by have := a.2; push_cast; omega⟩
            · rintro ⟨a1, a2⟩
              push_cast at a2
              by_cases e : s b = l
              · exact Or.inr ⟨a1, e⟩
              · exact Or.inl ⟨a1, by omega⟩
          have skip : ∀ z : PV, (∀ s, (Qp S (M 46) b s ∧ s b = l) → Ev S s → M' 6 11 ≤ Mv S s) → gV mX4_place (d + (2 * n + 2) + 1 + 1) (PO S M b) 169 [vR 6, vI b, vI m, vI (S 19 b), vI l, z] [] M' := fun z hno => adv M' z hP h45 h46 (Imp_no hno)
          have body : ∀ v : Int, v = m + (if (l : Int) = S 19 b then 0 else 1) → gV mX4_place (d + (2 * n + 2) + 1 + 1) (PO S M b) 85 [vR 6, vI b, vI m, vI (S 19 b), vI l, z] [vI v] M' := by
            intro v hv
            have v0 : 0 ≤ v ∧ v ≤ m + 1 := by rw [hv]; split <;> omega
            have emv : ∀ s, (Qp S (M 46) b s ∧ s b = l) → v ≤ Mv S s := fun s hs => by
              have := mvN_mono (on := S 19) (t := s) (b := b + 1) n
              rw [show b + 1 + n = 8 by omega, mvN_cong (t := up1 (M 46) b l) (fun j j0 j1 => by
                rw [up1_e]
                split
                · rename_i e; rw [e]; exact hs.2
                · exact hs.1.2.1 j j0 (by push_cast at j1; omega)), mvN_up, ← v3] at this
              show v ≤ mvN (S 19) s 8
              omega
            repeat (refine gV_s rfl (by first | exact trivial | omega) ?_)
            rw [g9]
            refine gV_i rfl (by unfold rng; omega) (fun h1 => ?_) (fun h1 => ?_)
            · refine skip _ (fun s hs _ => ?_)
              have := hs.1.1 b (by omega) (by omega)
              rw [hs.2] at this
              omega
            · have hu1 : S 9 l = 1 := by omega
              have hF0 : -1 ≤ M' 6 11 := by
                rcases hImp with a | ⟨a1, a2, t, a3, a4, a5, a6, a7⟩
                · have := a.1; omega
                · have := (ct_nn (fun j => decide (t j ≠ S 19 j)) 8).1
                  have a5' : ct (fun j => decide (t j ≠ S 19 j)) 8 = M' 6 11 := a5
                  omega
              repeat (refine gV_s rfl (by first | exact trivial | omega) ?_)
              refine gV_i rfl (by unfold rng; omega) (fun h2 => ?_) (fun h2 => ?_)
              · have hl4 : (l : Int) < 4 := by omega
                have x45 : M' 45 l = ldN (S 44) (M 46) l b := by rw [h45, v2 l (by omega) hl4]
                have hld := ldN_le (t := M 46) (l := l) cw0 b (by omega)
                have hsm := sm_mono cw0 (b := b) (n + 1) (by omega)
                rw [show b + (n + 1) = 8 by omega] at hsm
                have hX : M' 45 l + M' 44 b = ldN (S 44) (up1 (M' 46) b l) l (b + 1) := by
                  rw [ldN_up, if_pos rfl, x45, g44, ldN_cong (s := M 46) (t := M' 46) (fun j j0 j1 => (h46 j j0 j1).symm)]
                have hXs : ∀ s, (Qp S (M 46) b s ∧ s b = l) → M' 45 l + M' 44 b ≤ ldN (S 44) s l 8 := fun s hs => by
                  have := ldN_mono (t := s) (l := l) cw0 (b := b + 1) n (by omega)
                  rw [show b + 1 + n = 8 by omega, ldN_cong (t := up1 (M' 46) b l) (fun j j0 j1 => by
                    rw [up1_e]
                    split
                    · rename_i e; rw [e]; exact hs.2
                    · rw [hs.1.2.1 j j0 (by push_cast at j1; omega), h46 j j0 (by push_cast at j1; omega)]), ← hX] at this
                  exact this
                have em : ∀ r, r ≠ 45 → mw M' 45 l (M' 45 l + M' 44 b) r = M' r := fun r hr => mw_rn _ _ _ hr
                have back : ∀ (M3 : Mem) (z : PV), Pl S M3 → M3 45 = up1 (M' 45) l (M' 45 l + M' 44 b) → (∀ j : Int, 0 ≤ j → j < b → M3 46 j = M 46 j) → Imp (Ev S) (fun s => Qp S (M 46) b s ∧ s b = l) (Mv S) (M' 6 11) (M' 6 0) (M' 43) (M3 6 11) (M3 6 0) (M3 43) → gV mX4_place (d + (2 * n + 2) + 1 + 1) (PO S M b) 153 [vR 6, vI b, vI m, vI (S 19 b), vI l, z] [] M3 := by
                  intro M3 z hP3 h453 h463 hI3
                  iterate 11 (refine gV_s rfl (by first | exact trivial | omega) ?_)
                  refine adv (mw M3 45 l (M3 45 l - M3 44 b)) _ ⟨fun r a1 a2 a3 a4 => by rw [mw_rn _ _ _ a3]; exact hP3.1 r a1 a2 a3 a4, fun i a1 a2 => by rw [mw_rn _ _ _ (by decide)]; exact hP3.2 i a1 a2⟩ ?_ (fun j j0 j1 => by rw [mw_rn _ _ _ (by decide)]; exact h463 j j0 j1) (by rw [mw_rn _ _ _ (by decide), mw_rn _ _ _ (by decide)]; exact hI3)
                  have e44' : M3 44 b = S 44 b := by rw [hP3.1 44 (by decide) (by decide) (by decide) (by decide)]
                  rw [mw_rs, h453, up1_up1, up1_s, e44', g44, show M' 45 l + S 44 b - S 44 b = M' 45 l by omega, up1_id, h45]
                have hw8 := ok_within (d := d + (2 * n + 2) + 1) (M := mw M' 45 l (M' 45 l + M' 44 b)) (l := l) (x := M' 45 l + M' 44 b) (by omega) hl4 (by omega) (by rw [em 6 (by decide), q2 8 (by decide) (by decide)]; exact cA) (by rw [em 6 (by decide), q2 9 (by decide) (by decide)]; exact cB) (by rw [em 6 (by decide), q2 10 (by decide) (by decide)]; exact ck) (by rw [em 7 (by decide), q1 7 (by decide) (by decide) (by decide) (by decide)]; exact cs l)
                rw [em 6 (by decide), q2 8 (by decide) (by decide), q2 9 (by decide) (by decide), q2 10 (by decide) (by decide), em 7 (by decide), q1 7 (by decide) (by decide) (by decide) (by decide)] at hw8
                repeat (refine gV_s rfl (by first | exact trivial | omega) ?_)
                rw [show mw M' 45 l (M' 45 l + M' 44 b) 45 l = M' 45 l + M' 44 b by rw [mw_rs, up1_s]]
                refine gV_cV hw8 mX4_isWithinShare_ok sX4_X4_isWithinShare rfl rfl rfl rfl rfl rfl ?_
                rintro r M1 ⟨rfl, ⟨h3, rfl⟩ | ⟨h3, rfl⟩⟩
                · refine gV_in rfl (by unfold rng; omega) (by omega) ?_
                  have hI2 : PI S (mw (mw M' 45 l (M' 45 l + M' 44 b)) 46 b l) (b + 1) v := by
                    refine ⟨⟨fun r a1 a2 a3 a4 => by rw [mw_rn _ _ _ a4, mw_rn _ _ _ a3]; exact q1 r a1 a2 a3 a4, fun i a1 a2 => by rw [mw_rn _ _ _ (by decide), mw_rn _ _ _ (by decide)]; exact q2 i a1 a2⟩, ?_, ?_, ?_, ?_, ?_, ?_⟩
                    · rw [mw_rs, mw_rn _ _ _ (by decide)]
                      intro j j0 j1
                      rw [up1_e]
                      split
                      · exact ⟨by omega, by omega, hu1⟩
                      · rw [h46 j j0 (by push_cast at j1; omega)]
                        exact v1 j j0 (by push_cast at j1; omega)
                    · intro l' l0 l4'
                      rw [mw_rs, mw_rn _ _ _ (by decide), mw_rs, mw_rn _ _ _ (by decide), up1_e]
                      split
                      · rename_i e; rw [e]; exact hX
                      · rename_i e
                        rw [ldN_up, if_neg (fun q => e q.symm), h45, v2 l' l0 l4', ldN_cong (s := M 46) (t := M' 46) (fun j j0 j1 => (h46 j j0 j1).symm)]
                        omega
                    · rw [mw_rs, mw_rn _ _ _ (by decide), mvN_up, mvN_cong (s := M' 46) (t := M 46) (fun j j0 j1 => h46 j j0 j1), ← v3]
                      exact hv
                    · rw [mw_rn _ _ _ (by decide), mw_rn _ _ _ (by decide)]; exact h2
                    · rw [mw_rn _ _ _ (by decide), mw_rn _ _ _ (by decide)]; exact hF9
                    · intro l' l0 lL hu'
                      rw [mw_rs, mw_rn _ _ _ (by decide)]
                      by_cases e : l' = l
                      · rw [e, ← hX]; exact h3
                      · rw [ldN_up, if_neg (fun q => e q.symm), ldN_cong (s := M' 46) (t := M 46) (fun j j0 j1 => h46 j j0 j1), Int.add_zero]
                        exact v6 l' l0 lL hu'
                  have hp := ih (b + 1) (by omega) d (mw (mw M' 45 l (M' 45 l + M' 44 b)) 46 b l) v hI2
                  rw [show (((b + 1 : Nat) : Int)) = (b : Int) + 1 by push_cast; rfl] at hp
                  repeat (refine gV_s rfl (by first | exact trivial | omega) ?_)
                  refine gV_cV (on_of (b := (b : Int)) (l := l) (m := v) (by omega) (by omega) hp (fun r M' h => h.1)) mX4_placeOn_ok sX4_X4_placeOn rfl rfl rfl rfl rfl rfl ?_
                  rintro r M3 ⟨rfl, o1, o2, o3, o4⟩
                  refine back M3 _ o1 ?_ (fun j j0 j1 => ?_) ?_
                  · rw [o2, mw_rn _ _ _ (by decide), mw_rs]
                  · rw [o3 j j0 (by push_cast; omega), mw_rs, up1_n _ _ (by omega), mw_rn _ _ _ (by decide), h46 j j0 j1]
                  · rw [mw_rs, mw_rn _ _ _ (show (46 : Nat) ≠ 45 by decide), mw_rn _ _ _ (show (6 : Nat) ≠ 46 by decide), mw_rn _ _ _ (show (6 : Nat) ≠ 45 by decide), mw_rn _ _ _ (show (43 : Nat) ≠ 46 by decide), mw_rn _ _ _ (show (43 : Nat) ≠ 45 by decide)] at o4
                    refine Imp_iff (fun s => ?_) o4
                    constructor
                    · rintro ⟨a1, a2, a3⟩
                      refine ⟨⟨a1, fun j j0 j1 => ?_, fun j j0 j1 hw => ?_⟩, ?_⟩
                      · rw [a2 j j0 (by push_cast; omega), up1_n _ _ (by omega), h46 j j0 j1]
                      · by_cases e : j = b
                        · subst e; exact absurd hw hw0
                        · exact a3 j (by push_cast; omega) j1 hw
                      · rw [a2 b (by omega) (by push_cast; omega), up1_s]
                    · rintro ⟨⟨a1, a2, a3⟩, a4⟩
                      refine ⟨a1, fun j j0 j1 => ?_, fun j j0 j1 hw => a3 j (by push_cast at j0; omega) j1 hw⟩
                      rw [up1_e]
                      split
                      · rename_i e; rw [e]; exact a4
                      · rw [a2 j j0 (by push_cast at j1; omega), h46 j j0 (by push_cast at j1; omega)]
                · refine gV_it rfl (by unfold rng; omega) rfl ?_
                  refine back (mw M' 45 l (M' 45 l + M' 44 b)) _ ⟨fun r a1 a2 a3 a4 => by rw [mw_rn _ _ _ a3]; exact q1 r a1 a2 a3 a4, fun i a1 a2 => by rw [mw_rn _ _ _ (by decide)]; exact q2 i a1 a2⟩ (by rw [mw_rs]) (fun j j0 j1 => by rw [mw_rn _ _ _ (by decide)]; exact h46 j j0 j1) ?_
                  rw [mw_rn _ _ _ (by decide), mw_rn _ _ _ (by decide)]
                  refine Imp_no (fun s hs he => absurd ?_ h3)
                  exact wth_mono cA.1 (hXs s hs) (he l (by omega) (by omega) hu1)
              · refine gV_s rfl trivial ?_
                exact skip _ (fun s hs _ => by have := emv s hs; omega)
          refine gV_in rfl (by unfold rng; omega) (by omega) ?_
          repeat (refine gV_s rfl (by first | exact trivial | omega) ?_)
          refine gV_i rfl (by unfold rng; omega) (fun h1 => ?_) (fun h1 => ?_)
          · refine gV_s rfl trivial (gV_s rfl trivial ?_)
            exact body m (by rw [if_pos h1]; omega)
          · refine gV_s rfl trivial (gV_s rfl trivial (gV_s rfl trivial ?_))
            exact body (m + 1) (by rw [if_neg h1])
      repeat (refine gV_s rfl (by first | exact trivial | omega) ?_)
      rw [show M 1 0 = S 1 0 by rw [p1 1 (by decide) (by decide) (by decide) (by decide)]]
      refine loop (S 1 0).toNat 0 M none (by omega) ⟨p1, p2⟩ rfl (fun j _ _ => rfl) (Imp_no (fun s hs _ => ?_))
      have := hs.1.1 b (by omega) (by omega)
      have := hs.2
      omega
