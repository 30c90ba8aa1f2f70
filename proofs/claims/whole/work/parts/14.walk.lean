/-! Walking: the rules with open states; counting. -/
section GW
variable {mt : Mt} {d : Nat} {P : PV → Mem → Prop} {pc : Nat} {lv st : List PV} {M : Mem}
theorem gV_s {pc' : Nat} {lv' st' : List PV} {M' : Mem} {φ : Prop} (h : ps mt pc lv st M = some ((pc', lv', st', M'), φ)) (hφ : φ) (kk : gV mt d P pc' lv' st' M') : gV mt d P pc lv st M := gV_st h hφ kk
/-- a branch, open: the condition as it reads; 'not equal' as 'equal' with its ways changed -/
def pbx (mt : Mt) (pc : Nat) (st : List PV) : Option ((Nat × Nat × List PV) × Prop × Prop) :=
  match lk pc mt.2.2.2.2.2 with
  | none => none
  | some (nx, tg, ins) => match ins with
    | .if_icmp op _ => match st with
      | some (.inl y) :: some (.inl x) :: rest => match op with
        | .eq => some ((tg, nx, rest), rng x ∧ rng y, x = y)
        | .ne => some ((nx, tg, rest), rng x ∧ rng y, x = y)
        | .lt => some ((tg, nx, rest), rng x ∧ rng y, x < y)
        | .ge => some ((tg, nx, rest), rng x ∧ rng y, y ≤ x)
        | .gt => some ((tg, nx, rest), rng x ∧ rng y, y < x)
        | .le => some ((tg, nx, rest), rng x ∧ rng y, x ≤ y)
      | _ => none
    | .ifCond op _ => match st with
      | some (.inl x) :: rest => match op with
        | .eq => some ((tg, nx, rest), rng x, x = 0)
        | .ne => some ((nx, tg, rest), rng x, x = 0)
        | .lt => some ((tg, nx, rest), rng x, x < 0)
        | .ge => some ((tg, nx, rest), rng x, 0 ≤ x)
        | .gt => some ((tg, nx, rest), rng x, 0 < x)
        | .le => some ((tg, nx, rest), rng x, x ≤ 0)
      | _ => none
    | _ => none
theorem gV_i {t n : Nat} {rest : List PV} {φ cnd : Prop} (h : pbx mt pc st = some ((t, n, rest), φ, cnd)) (hφ : φ) (kt : cnd → gV mt d P t lv rest M) (kf : ¬ cnd → gV mt d P n lv rest M) : gV mt d P pc lv st M := by
  unfold pbx at h
  cases hl : lk pc mt.2.2.2.2.2 with
  | none => rw [hl] at h; cases h
  | some x =>
    obtain ⟨nx, tg, ins⟩ := x
    rw [hl] at h
    dsimp only at h
    cases ins
    case if_icmp op o =>
      dsimp only at h
      split at h
      next y x rest =>
        cases op
        case ne => cases h; exact icmp_ok hl hφ.1 hφ.2 kf (fun q => kt (Classical.not_not.mp q))
        all_goals (cases h; exact icmp_ok hl hφ.1 hφ.2 kt kf)
      next => cases h
    case ifCond op o =>
      dsimp only at h
      split at h
      next x rest =>
        cases op
        case ne => cases h; exact ifc_ok hl hφ kf (fun q => kt (Classical.not_not.mp q))
        all_goals (cases h; exact ifc_ok hl hφ kt kf)
      next => cases h
    all_goals cases h
/-- a branch that is known -/
theorem gV_it {t n : Nat} {rest : List PV} {φ cnd : Prop} (h : pbx mt pc st = some ((t, n, rest), φ, cnd)) (hφ : φ) (hc : cnd) (kt : gV mt d P t lv rest M) : gV mt d P pc lv st M := gV_i h hφ (fun _ => kt) (fun q => absurd hc q)
theorem gV_in {t n : Nat} {rest : List PV} {φ cnd : Prop} (h : pbx mt pc st = some ((t, n, rest), φ, cnd)) (hφ : φ) (hc : ¬ cnd) (kf : gV mt d P n lv rest M) : gV mt d P pc lv st M := gV_i h hφ (fun q => absurd q hc) (fun _ => kf)
end GW
def ct (p : Int → Bool) : Nat → Int
  | 0 => 0
  | k + 1 => ct p k + (if p k = true then 1 else 0)
theorem ct_0 (p : Int → Bool) : ct p 0 = 0 := rfl
theorem ct_s (p : Int → Bool) (k : Nat) : ct p (k + 1) = ct p k + (if p k = true then 1 else 0) := rfl
theorem ct_nn (p : Int → Bool) : ∀ k : Nat, 0 ≤ ct p k ∧ ct p k ≤ k
  | 0 => ⟨Int.le_refl _, Int.le_refl _⟩
  | k + 1 => by
    have := ct_nn p k
    rw [ct_s]
    split <;> constructor <;> push_cast <;> omega
abbrev is_ (f : Int → Int) (v : Int) : Int → Bool := fun j => decide (f j = v)
theorem howMany_loop {d : Nat} {M : Mem} {l : Int} {P : PV → Mem → Prop} (hl : rng l) (hM : ∀ b, rng (M 19 b)) (hP : P (vI (ct (is_ (M 19) l) 8)) M) : ∀ (n b : Nat), b + n = 8 →
    gV mX0_howManyOn d P 7 [vR 2, vI l, vI (ct (is_ (M 19) l) b), vI b] [vI 8, vI b] M
  | 0, b, h => by
    have hb : b = 8 := by omega
    subst hb
    refine gV_it rfl (by unfold rng; omega) (show (8 : Int) ≤ _ by omega) ?_
    repeat (refine gV_s rfl (by first | exact trivial | omega) ?_)
    exact gV_ret rfl trivial hP
  | n + 1, b, h => by
    have ih := howMany_loop (d := d) hl hM hP n (b + 1) (by omega)
    have h0 := hM b
    refine gV_in rfl (by unfold rng; omega) (show ¬ (8 : Int) ≤ _ by omega) ?_
    repeat (refine gV_s rfl (by first | exact trivial | omega) ?_)
    refine gV_i rfl ⟨h0, hl⟩ (fun h1 => ?_) (fun h1 => ?_)
    · repeat (refine gV_s rfl (by first | exact trivial | omega) ?_)
      rw [ct_s _ b, if_pos (by simpa using h1)] at ih
      exact ih
    · repeat (refine gV_s rfl (by first | exact trivial | omega) ?_)
      rw [ct_s _ b, if_neg (by simpa using h1), Int.add_zero] at ih
      exact ih
theorem ok_howMany {d : Nat} {M : Mem} {l : Int} {P : PV → Mem → Prop} (hl : rng l) (hM : ∀ b, rng (M 19 b)) (hP : P (vI (ct (is_ (M 19) l) 8)) M) : gOk mX0_howManyOn d [vR 2, vI l] M P := by
  refine gOk_of mX0_howManyOn_ok (by simp) (Nat.le_of_ble_eq_true rfl) ?_
  repeat (refine gV_s rfl (by first | exact trivial | omega) ?_)
  exact howMany_loop hl hM hP 8 0 rfl
