/-! ps is what the machine does; branches; answers; calls; from a frame to a contract. -/
theorem shp_small {r k n : Nat} (h : shp r = some (.inr (k, n))) : n < 2147483648 := by
  unfold shp at h
  rw [shf_eq] at h
  have key : ∀ sh ∈ shL, ∀ k n, sh = .inr (k, n) → n < 2147483648 := by
    intro sh hsh
    have h1 : shL.all (fun sh => match sh with | .inr (_, n) => decide (n < 2147483648) | _ => true) = true := by decide +kernel
    have h2 := List.all_eq_true.mp h1 sh hsh
    rintro k n rfl
    exact of_decide_eq_true h2
  exact key _ (List.mem_of_getElem? h) k n rfl
section GT
variable {mt : Mt} {d : Nat} {P : PV → Mem → Prop} {pc nx tg : Nat} {lv st rest : List PV} {M : Mem}
set_option maxHeartbeats 4000000 in
theorem gV_st {cf : Cf} {φ : Prop} (h : ps mt pc lv st M = some (cf, φ)) (hφ : φ) (kk : gV mt d P cf.1 cf.2.1 cf.2.2.1 cf.2.2.2) : gV mt d P pc lv st M := by
  unfold ps at h
  cases hl : lk pc mt.2.2.2.2.2 with
  | none => rw [hl] at h; cases h
  | some x =>
    obtain ⟨nx, tg, ins⟩ := x
    rw [hl] at h
    dsimp only at h
    cases ins
    case iload_n k =>
      dsimp only at h
      split at h
      next x hn => cases h; exact gV_iload_n hl hn kk
      next => cases h
    case iload k =>
      dsimp only at h
      split at h
      next x hn => cases h; exact gV_iload hl hn kk
      next => cases h
    case aload_n k =>
      dsimp only at h
      split at h
      next x hn => cases h; exact gV_aload_n hl hn kk
      next => cases h
    case aload k =>
      dsimp only at h
      split at h
      next x hn => cases h; exact gV_aload hl hn kk
      next => cases h
    case iconst n => cases h; exact gV_iconst hl kk
    case bipush n => cases h; exact gV_bipush hl kk
    case sipush n => cases h; exact gV_sipush hl kk
    case istore_n k =>
      dsimp only at h
      split at h
      next x rest =>
        obtain ⟨h1, h2⟩ := stk_eq _ _ _ _ h
        cases h2
        exact gV_istore_n hl h1 kk
      next => cases h
    case istore k =>
      dsimp only at h
      split at h
      next x rest =>
        obtain ⟨h1, h2⟩ := stk_eq _ _ _ _ h
        cases h2
        exact gV_istore hl h1 kk
      next => cases h
    case iinc k n =>
      dsimp only at h
      split at h
      next x hn =>
        obtain ⟨h1, h2⟩ := stk_eq _ _ _ _ h
        cases h2
        exact gV_iinc hl hn h1 kk
      next => cases h
    case goto o => cases h; exact gV_goto hl kk
    case dup =>
      dsimp only at h
      split at h
      next x rest => cases h; exact gV_dup hl (fun y q => by cases q) kk
      next r rest => cases h; exact gV_dup hl (fun y q => by cases q) kk
      next => cases h
    case dup2 =>
      dsimp only at h
      split at h
      next x y rest => cases h; exact gV_dup2 hl (fun y q => by cases q) (fun y q => by cases q) kk
      next x r rest => cases h; exact gV_dup2 hl (fun y q => by cases q) (fun y q => by cases q) kk
      next => cases h
    case pop =>
      dsimp only at h
      split at h
      next x rest => cases h; exact gV_pop hl (fun y q => by cases q) kk
      next => cases h
    case iadd =>
      dsimp only at h
      split at h
      next x y rest => cases h; exact gV_iadd hl kk
      next => cases h
    case isub =>
      dsimp only at h
      split at h
      next x y rest => cases h; exact gV_isub hl kk
      next => cases h
    case imul =>
      dsimp only at h
      split at h
      next x y rest => cases h; exact gV_imul hl kk
      next => cases h
    case irem =>
      dsimp only at h
      split at h
      next x y rest => cases h; exact gV_irem hl hφ kk
      next => cases h
    case i2l =>
      dsimp only at h
      split at h
      next x rest => cases h; exact gV_i2l hl hφ kk
      next => cases h
    case lmul =>
      dsimp only at h
      split at h
      next x y rest => cases h; exact gV_lmul hl kk
      next => cases h
    case ladd =>
      dsimp only at h
      split at h
      next x y rest => cases h; exact gV_ladd hl kk
      next => cases h
    case getfield ix =>
      dsimp only at h
      split at h
      next r rest =>
        unfold psGet at h
        split at h
        next ci k tc ki hf =>
          split at h
          next ci' fs hs =>
            cases hb : Nat.beq ci ci' with
            | false => rw [hb] at h; cases h
            | true =>
              rw [hb] at h
              have he : ci = ci' := Nat.eq_of_beq_eq_true hb
              subst he
              dsimp only [cond_true] at h
              split at h
              next ho => cases h; exact gV_get hl hf hs (by rw [← nO_eq]; exact ho) (fun hk ad => by rw [hk]; rfl) kk
              next q ho => cases h; exact gV_get hl hf hs (by rw [← nO_eq]; exact ho) (fun hk ad => rfl) kk
              next => cases h
          next => cases h
        next => cases h
      next => cases h
    case putfield ix =>
      dsimp only at h
      split at h
      next v r rest =>
        unfold psPut at h
        split at h
        next ci k tc ki hf =>
          split at h
          next ci' fs hs =>
            cases hb : Nat.beq ci ci' with
            | false => rw [hb] at h; cases h
            | true =>
              rw [hb] at h
              have he : ci = ci' := Nat.eq_of_beq_eq_true hb
              subst he
              dsimp only [cond_true] at h
              split at h
              next ho =>
                split at h
                next => cases h; exact gV_put hl hf hs (by rw [← nO_eq]; exact ho) (Or.inl rfl) kk
                next => cases h; exact gV_put hl hf hs (by rw [← nO_eq]; exact ho) (Or.inr ⟨rfl, hφ⟩) kk
                next => cases h
              next => cases h
          next => cases h
        next => cases h
      next => cases h
    case iaload =>
      dsimp only at h
      split at h
      next i r rest =>
        split at h
        next n hs => cases h; exact gV_iald hl hs (shp_small hs) hφ kk
        next => cases h
      next => cases h
    case baload =>
      dsimp only at h
      split at h
      next i r rest =>
        split at h
        next n hs => cases h; exact gV_zald hl hs (shp_small hs) hφ kk
        next => cases h
      next => cases h
    case aaload =>
      dsimp only at h
      split at h
      next i r rest =>
        split at h
        next b n hs => cases h; exact gV_aald hl hs (shp_small hs) hφ kk
        next => cases h
      next => cases h
    case iastore =>
      dsimp only at h
      split at h
      next v i r rest =>
        split at h
        next n hs => cases h; exact gV_iast hl hs (shp_small hs) hφ kk
        next => cases h
      next => cases h
    case bastore =>
      dsimp only at h
      split at h
      next v i r rest =>
        split at h
        next n hs => cases h; exact gV_zast hl hs (shp_small hs) hφ kk
        next => cases h
      next => cases h
    all_goals cases h
end GT
