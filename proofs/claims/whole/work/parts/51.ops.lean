/-! What each operation keeps. -/
theorem AI_fr {S T : Mem} {lo : Int → Int} {x : Int} (h : AI S lo x) (hr : ∀ r, r < 47 → T r = S r) : AI T lo x := AI_pl h (fun r _ b => hr r (by omega)) (by rw [hr 6 (by decide)]; exact h.1.2.2.2.2.2.2.2)
theorem NI_fr {S T : Mem} (h : NI S) (hr : ∀ r, r < 47 → T r = S r) : NI T := by
  unfold NI
  rw [hr 5 (by decide)]
  exact AI_fr h hr
theorem lastP_none {out fl pl : Int → Int} {f : Int} : ∀ n : Nat, (∀ k : Int, 0 ≤ k → k < n → fl (out k) ≠ f) → lastP out fl pl f n = -6 ∧ mixP out fl pl f n = false
  | 0, _ => ⟨rfl, rfl⟩
  | n + 1, h => by
    obtain ⟨a, b⟩ := lastP_none (out := out) (fl := fl) (pl := pl) (f := f) n (fun k k0 k1 => h k k0 (by omega))
    have c := h n (by omega) (by omega)
    unfold lastP mixP
    rw [if_neg c, b]
    exact ⟨a, by simp [c]⟩
theorem NI_flow {S : Mem} {r : Int} (h : NI S) (hF : S 3 0 < 16) (hr : 0 ≤ r ∧ r ≤ 100) : NI (aFlow S r) := by
  have eo : ∀ q, q ≠ 24 → q ≠ 25 → q ≠ 29 → q ≠ 3 → aFlow S r q = S q := fun q a b c d => by unfold aFlow; rw [mw_rn _ _ _ d, mw_rn _ _ _ c, mw_rn _ _ _ b, mw_rn _ _ _ a]
  have e24 : aFlow S r 24 = up1 (S 24) (S 3 0) r := by unfold aFlow; simp only [mw_rs, mw_rn, ne_eq, not_false_eq_true, Nat.reduceEqDiff, Nat.reduceLT, Nat.reduceLeDiff, true_or, or_true, forall_const]
  have e25 : aFlow S r 25 = up1 (S 25) (S 3 0) (-1) := by unfold aFlow; simp only [mw_rs, mw_rn, ne_eq, not_false_eq_true, Nat.reduceEqDiff, Nat.reduceLT, Nat.reduceLeDiff, true_or, or_true, forall_const]
  have e29 : aFlow S r 29 = up1 (S 29) (S 3 0) (-6) := by unfold aFlow; simp only [mw_rs, mw_rn, ne_eq, not_false_eq_true, Nat.reduceEqDiff, Nat.reduceLT, Nat.reduceLeDiff, true_or, or_true, forall_const]
  have e30 : aFlow S r 3 0 = S 3 0 + 1 := by unfold aFlow; rw [mw_rs, up1_s]
  have e31 : aFlow S r 3 1 = S 3 1 := by unfold aFlow; rw [mw_rs, up1_n _ _ (by decide)]; simp only [mw_rn, ne_eq, not_false_eq_true, Nat.reduceEqDiff, Nat.reduceLT, Nat.reduceLeDiff, true_or, or_true, forall_const]
  have e32 : aFlow S r 3 2 = S 3 2 := by unfold aFlow; rw [mw_rs, up1_n _ _ (by decide)]; simp only [mw_rn, ne_eq, not_false_eq_true, Nat.reduceEqDiff, Nat.reduceLT, Nat.reduceLeDiff, true_or, or_true, forall_const]
  have eq : ∀ l' p, 0 ≤ l' → l' < 4 → qr (aFlow S r) l' p = qr S l' p := fun l' p a b => by
    show aFlow S r (11 + l'.toNat) p = _
    rw [eo _ (by omega) (by omega) (by omega) (by omega)]
  obtain ⟨ha, hl, hb, hn, hh, hf, ht, ks, kh, kf, kl, hq, hi, ho⟩ := h
  refine NI_of (S := S) ?_ (eo 5 (by decide) (by decide) (by decide) (by decide))
  unfold AI Ja
  simp only [eo, e24, e25, e29, e30, e31, e32, ne_eq, not_false_eq_true, Nat.reduceEqDiff, Nat.reduceLT, Nat.reduceLeDiff, true_or, or_true, forall_const]
  have h3 := ha.2.1
  refine ⟨⟨ha.1, ⟨by omega, by omega⟩, ha.2.2⟩, hl, hb, hn, hh, ?_, ?_, ks, kh, kf, kl, Jq_rw hq eq, Ji_rw hi ha.1.2 eq, ?_⟩
  · intro f
    have := hf f
    rw [up1_e, up1_e]
    split
    · omega
    · exact this
  · intro i
    have := ht i
    exact ⟨⟨this.1.1, this.1.2.1, fun a b => by have := this.1.2.2 a b; omega⟩, this.2⟩
  · obtain ⟨o1, o2, o3, o4⟩ := ho
    refine ⟨o1, fun f f0 f1 => ?_, fun f => ?_, fun f hf => o4 f (by omega)⟩
    · by_cases e : f = S 3 0
      · subst e
        obtain ⟨n1, n2⟩ := lastP_none (out := S 40) (fl := S 31) (pl := S 32) (f := S 3 0) (S 41 4).toNat (fun k k0 k1 => by
          have w := o1 k k0 (by omega)
          have := (ht (S 40 k)).1.2.2 w.1 w.2
          omega)
        rw [up1_s, n1, n2, o4 _ (Int.le_refl _)]
        exact ⟨rfl, rfl⟩
      · rw [up1_n _ _ e]
        exact o2 f f0 (by omega)
    · rw [up1_e]
      split
      · omega
      · exact o3 f
theorem NI_rate {S : Mem} {f r : Int} (h : NI S) (hr : 0 ≤ r ∧ r ≤ 100) : NI (mw S 24 f r) := by
  have eo : ∀ q, q ≠ 24 → mw S 24 f r q = S q := fun q a => mw_rn _ _ _ a
  have eq : ∀ l' p, 0 ≤ l' → l' < 4 → qr (mw S 24 f r) l' p = qr S l' p := fun l' p a b => mwq (by omega) _ _ a b
  obtain ⟨ha, hl, hb, hn, hh, hf, ht, ks, kh, kf, kl, hq, hi, ho⟩ := h
  refine NI_of (S := S) ?_ (eo 5 (by decide))
  unfold AI Ja
  simp only [eo, mw_rs, ne_eq, not_false_eq_true, Nat.reduceEqDiff, Nat.reduceLT, Nat.reduceLeDiff, true_or, or_true, forall_const]
  refine ⟨ha, hl, hb, hn, hh, ?_, ht, ks, kh, kf, kl, Jq_rw hq eq, Ji_rw hi ha.1.2 eq, ho⟩
  intro g
  have := hf g
  rw [up1_e]
  split
  · omega
  · exact this
theorem NI_pin {S : Mem} {f b : Int} (h : NI S) (hr : -1 ≤ b ∧ b < 8) : NI (mw S 25 f b) := by
  have eo : ∀ q, q ≠ 25 → mw S 25 f b q = S q := fun q a => mw_rn _ _ _ a
  have eq : ∀ l' p, 0 ≤ l' → l' < 4 → qr (mw S 25 f b) l' p = qr S l' p := fun l' p a c => mwq (by omega) _ _ a c
  obtain ⟨ha, hl, hb, hn, hh, hf, ht, ks, kh, kf, kl, hq, hi, ho⟩ := h
  refine NI_of (S := S) ?_ (eo 5 (by decide))
  unfold AI Ja
  simp only [eo, mw_rs, ne_eq, not_false_eq_true, Nat.reduceEqDiff, Nat.reduceLT, Nat.reduceLeDiff, true_or, or_true, forall_const]
  refine ⟨ha, hl, hb, hn, hh, ?_, ht, ks, kh, kf, kl, Jq_rw hq eq, Ji_rw hi ha.1.2 eq, ho⟩
  intro g
  have := hf g
  rw [up1_e]
  split
  · omega
  · exact this
theorem NI_hash {S : Mem} {a c : Int} (h : NI S) (ha0 : 0 ≤ a ∧ a ≤ 7) (hc0 : 0 ≤ c ∧ c ≤ 7) : NI (mw (mw S 3 1 a) 3 2 c) := by
  have eo : ∀ q, q ≠ 3 → mw (mw S 3 1 a) 3 2 c q = S q := fun q w => by rw [mw_rn _ _ _ w, mw_rn _ _ _ w]
  have e0 : mw (mw S 3 1 a) 3 2 c 3 0 = S 3 0 := by rw [mw_rs, up1_n _ _ (by decide), mw_rs, up1_n _ _ (by decide)]
  have e1 : mw (mw S 3 1 a) 3 2 c 3 1 = a := by rw [mw_rs, up1_n _ _ (by decide), mw_rs, up1_s]
  have e2 : mw (mw S 3 1 a) 3 2 c 3 2 = c := by rw [mw_rs, up1_s]
  have eq : ∀ l' p, 0 ≤ l' → l' < 4 → qr (mw (mw S 3 1 a) 3 2 c) l' p = qr S l' p := fun l' p x y => by
    show mw (mw S 3 1 a) 3 2 c (11 + l'.toNat) p = _
    rw [eo _ (by omega)]
  obtain ⟨ha, hl, hb, hn, hh, hf, ht, ks, kh, kf, kl, hq, hi, ho⟩ := h
  refine NI_of (S := S) ?_ (eo 5 (by decide))
  unfold AI Ja
  simp only [eo, e0, e1, e2, ne_eq, not_false_eq_true, Nat.reduceEqDiff, Nat.reduceLT, Nat.reduceLeDiff, true_or, or_true, forall_const]
  exact ⟨⟨ha.1, ha.2.1, ha.2.2.1, ha.2.2.2.1, ha.2.2.2.2.1, ha0, hc0, ha.2.2.2.2.2.2.2⟩, hl, hb, hn, hh, hf, ht, ks, kh, kf, kl, Jq_rw hq eq, Ji_rw hi ha.1.2 eq, ho⟩
theorem NI_numbers {S : Mem} {v : Int} (h : NI S) (hv : v = 0 ∨ v = 1) : NI (mw S 5 1 v) := by
  have eo : ∀ q, q ≠ 5 → mw S 5 1 v q = S q := fun q w => mw_rn _ _ _ w
  have e0 : mw S 5 1 v 5 0 = S 5 0 := by rw [mw_rs, up1_n _ _ (by decide)]
  have e1 : mw S 5 1 v 5 1 = v := by rw [mw_rs, up1_s]
  have eq : ∀ l' p, 0 ≤ l' → l' < 4 → qr (mw S 5 1 v) l' p = qr S l' p := fun l' p a c => mwq (by omega) _ _ a c
  obtain ⟨ha, hl, hb, hn, hh, hf, ht, ks, kh, kf, kl, hq, hi, ho⟩ := h
  unfold NI AI Ja
  simp only [eo, e0, e1, ne_eq, not_false_eq_true, Nat.reduceEqDiff, Nat.reduceLT, Nat.reduceLeDiff, true_or, or_true, forall_const]
  exact ⟨⟨ha.1, ha.2.1, ha.2.2.1, ha.2.2.2.1, hv, ha.2.2.2.2.2⟩, hl, hb, hn, hh, hf, ht, ks, kh, kf, kl, Jq_rw hq eq, Ji_rw hi ha.1.2 eq, ho⟩
/-- an operation: what holds after it -/
def kp (S : Mem) (o : Int × Mem) : Prop := NI o.2 ∧ (∀ r, 45 ≤ r → o.2 r = S r) ∧ o.2 5 0 ≤ S 5 0 + 500
theorem kp_same {S : Mem} {v : Int} (h : NI S) : kp S (v, S) := ⟨h, fun _ _ => rfl, by show S 5 0 ≤ S 5 0 + 500; omega⟩
theorem kp_link {S : Mem} {s d : Int} (h : NI S) : kp S (oLink S s d) := by
  have hL := h.1.1
  unfold oLink
  split
  · rename_i c
    split
    · exact kp_same h
    · have ho : ∀ r, r = 5 ∨ 45 ≤ r → aLink S s d r = S r := fun r hr => by
        unfold aLink
        rw [aTake_o _ (by omega) (by omega) (by omega) (by omega) (by omega) (by omega) (by omega) (by omega) (by omega) (by omega)]
        unfold aLink0
        rw [mw_rn _ _ _ (by omega), mw_rn _ _ _ (by omega), mw_rn _ _ _ (by omega), mw_rn _ _ _ (by omega)]
      refine ⟨NI_link h (by omega) c.1 c.2, fun r hr => ho r (Or.inr hr), ?_⟩
      show aLink S s d 5 0 ≤ _
      rw [ho 5 (Or.inl rfl)]; omega
  · exact kp_same h
theorem kp_flow {S : Mem} {x : Int} (h : NI S) : kp S (oFlow S x) := by
  unfold oFlow
  split
  · rename_i c
    split
    · exact kp_same h
    · have ho : ∀ r, r = 5 ∨ 45 ≤ r → aFlow S x r = S r := fun r hr => by
        unfold aFlow
        rw [mw_rn _ _ _ (by omega), mw_rn _ _ _ (by omega), mw_rn _ _ _ (by omega), mw_rn _ _ _ (by omega)]
      refine ⟨NI_flow h (by omega) c, fun r hr => ho r (Or.inr hr), ?_⟩
      show aFlow S x 5 0 ≤ _
      rw [ho 5 (Or.inl rfl)]; omega
  · exact kp_same h
theorem kp_mw {S : Mem} {v i w : Int} {q : Nat} (h : NI (mw S q i w)) (hq : q < 45) (h5 : q ≠ 5 ∨ i ≠ 0) : kp S (v, mw S q i w) := by
  refine ⟨h, fun r hr => mw_rn _ _ _ (by omega), ?_⟩
  show mw S q i w 5 0 ≤ _
  by_cases e : q = 5
  · subst e
    rw [mw_rs, up1_n _ _ (by omega)]; omega
  · rw [mw_rn _ _ _ (fun z => e z.symm)]; omega
theorem kp_rate {S : Mem} {f x : Int} (h : NI S) : kp S (oRate S f x) := by
  unfold oRate
  split
  · split
    · rename_i c; exact kp_mw (NI_rate h c) (by decide) (Or.inl (by decide))
    · exact kp_same h
  · exact kp_same h
theorem kp_pin {S : Mem} {f b : Int} (h : NI S) : kp S (oPin S f b) := by
  unfold oPin
  split
  · split
    · rename_i c
      split
      · exact kp_same h
      · exact kp_mw (NI_pin h c) (by decide) (Or.inl (by decide))
    · exact kp_same h
  · exact kp_same h
theorem kp_hash {S : Mem} {a c : Int} (h : NI S) : kp S (oHash S a c) := by
  unfold oHash
  split
  · rename_i q
    split
    · exact kp_same h
    · refine ⟨NI_hash h q.1 q.2, fun r hr => by show mw (mw S 3 1 a) 3 2 c r = S r; rw [mw_rn _ _ _ (by omega), mw_rn _ _ _ (by omega)], ?_⟩
      show mw (mw S 3 1 a) 3 2 c 5 0 ≤ _
      rw [mw_rn _ _ _ (by decide), mw_rn _ _ _ (by decide)]; omega
  · exact kp_same h
theorem kp_numbers {S : Mem} {v : Int} (h : NI S) (hv : v = 0 ∨ v = 1) : kp S (oNumbers S v) := by
  unfold oNumbers
  split
  · exact kp_same h
  · exact kp_mw (NI_numbers h hv) (by decide) (by decide)
theorem send_hi {S : Mem} {lo : Int → Int} {f : Int} (h : AI S lo (-1)) (f0 : 0 ≤ f) (f1 : f < S 3 0) {r : Nat} (hr : 45 ≤ r) : ∀ k : Nat, S 4 0 + k ≤ 400 → aSend S f k r = S r
  | 0, _ => rfl
  | k + 1, hk => by
    have i1 := (AI_send h f0 f1 k (by omega)).1
    rw [aSend, aPost_r i1 (by omega), send_hi h f0 f1 hr k (by omega)]
theorem kp_send {S : Mem} {f n : Int} (h : NI S) : kp S (oSend S f n) := by
  unfold oSend
  split
  · rename_i c
    split
    · rename_i c2
      split
      · exact kp_same h
      · obtain ⟨i1, i2, i3, i4⟩ := AI_send h c.1 c.2 n.toNat (by omega)
        refine ⟨NI_of i1 i4, fun r hr => send_hi h c.1 c.2 hr n.toNat (by omega), ?_⟩
        show aSend S f n.toNat 5 0 ≤ _
        rw [i4]; omega
    · exact kp_same h
  · exact kp_same h
theorem tick_hi {S : Mem} (h : NI S) (ht : S 5 0 < 1000000) {r : Nat} (hr : 45 ≤ r) : aTick S r = S r := by
  rw [aTick_eq, aSets_o (AI_tk4 h ht) (by omega) (by omega) (by omega) (by omega) (by omega) (by omega) (by omega) (by omega) (by omega) (by omega) 8 (by omega)]
  unfold tk4
  rw [aOuts_o _ (by omega) (by omega) (by omega) (by omega) (by omega) (by omega) (by omega) (by omega)]
  unfold tk3
  rw [aArs_o _ (by omega) (by omega) (by omega) (by omega) (by omega) (by omega) (by omega) (by omega)]
  unfold tk2
  rw [aLvs_o _ (by omega) (by omega) (by omega) (by omega) (by omega) (by omega)]
  exact mw_rn _ _ _ (by omega)
theorem ticks_hi {S : Mem} (h : NI S) {r : Nat} (hr : 45 ≤ r) : ∀ k : Nat, S 5 0 + k ≤ 1000000 → aTicks S k r = S r
  | 0, _ => rfl
  | k + 1, hk => by
    obtain ⟨i1, i2⟩ := NI_ticks h k (by omega)
    rw [aTicks, tick_hi i1 (by omega) hr, ticks_hi h hr k (by omega)]
theorem kp_tick {S : Mem} {n : Int} (h : NI S) (ht : S 5 0 ≤ 900000) : kp S (oTick S n) := by
  unfold oTick
  split
  · rename_i c
    obtain ⟨i1, i2⟩ := NI_ticks h n.toNat (by omega)
    refine ⟨i1, fun r hr => ticks_hi h hr n.toNat (by omega), ?_⟩
    show aTicks S n.toNat 5 0 ≤ _
    rw [i2]; omega
  · exact kp_same h
theorem kp_move {S : Mem} {b l how : Int} (h : NI S) : kp S (oMove S b l how) := by
  have hL := h.1.1
  unfold oMove
  split
  · rename_i c
    split
    · split
      · exact kp_same h
      · rename_i c3
        split
        · exact kp_same h
        · rename_i c4
          have hup := h.2.1.2.1 l
          have hu : S 9 l = 1 := by omega
          have hA := AI_mv0 (how := how) h c.1.1 c.1.2 hu (by omega) (by omega) (by omega)
          have ho : ∀ r, r = 5 ∨ 45 ≤ r → aMove S b l how r = S r := fun r hr => by
            have e0 : aMv0 S b l how r = S r := by unfold aMv0; rw [mw_rn _ _ _ (by omega), mw_rn _ _ _ (by omega)]
            unfold aMove
            split
            · rw [aReach_o _ _ _ (by omega) (by omega) (by omega) (by omega) (by omega) (by omega) (by omega) (by omega) (by omega) (by omega) (by omega), e0]
            · rw [aSettle_o hA _ (by omega) (by omega) (by omega) (by omega) (by omega) (by omega) (by omega) (by omega) (by omega) (by omega), e0]
          refine ⟨NI_move h c.1.1 c.1.2 hu (by omega) (by omega) (by omega), fun r hr => ho r (Or.inr hr), ?_⟩
          show aMove S b l how 5 0 ≤ _
          rw [ho 5 (Or.inl rfl)]; omega
    · exact kp_same h
  · exact kp_same h
theorem kp_drop {S : Mem} {b : Int} (h : NI S) : kp S (oDrop S b) := by
  unfold oDrop
  split
  · split
    · exact kp_same h
    · have hbk := AI_bk h b
      have ho : ∀ r, r = 5 ∨ 45 ≤ r → aCancel S b r = S r := fun r hr => aCancel_o _ _ (by omega) (by omega) (by omega) (by omega) (by omega) (by omega) (by omega) (by omega) (by omega)
      refine ⟨NI_cancel h, fun r hr => ho r (Or.inr hr), ?_⟩
      show aCancel S b 5 0 ≤ _
      rw [ho 5 (Or.inl rfl)]; omega
  · exact kp_same h
theorem can_hi {S : Mem} {lo : Int → Int} {l : Int} (h : AI S lo l) (l0 : 0 ≤ l) (hd : S 9 l = 0) {r : Nat} (hr : 45 ≤ r) : ∀ k : Nat, k ≤ 8 → aCan S l k r = S r
  | 0, _ => rfl
  | k + 1, hk => by
    have i1 := (AI_can h l0 hd k (by omega)).1
    have hbk := AI_bk i1 k
    unfold aCan
    dsimp only
    split
    · rw [aCancel_o _ _ (by omega) (by omega) (by omega) (by omega) (by omega) (by omega) (by omega) (by omega) (by omega), can_hi h l0 hd hr k (by omega)]
    · exact can_hi h l0 hd hr k (by omega)
theorem mvs_hi {S : Mem} {lo : Int → Int} {l : Int} (h : AI S lo l) (l0 : 0 ≤ l) (hd : S 9 l = 0) (ht : ∀ b, 0 ≤ b → b < 8 → S 20 b ≠ l) {r : Nat} (hr : 45 ≤ r) : ∀ k : Nat, k ≤ 8 → aMvs S l k r = S r
  | 0, _ => rfl
  | k + 1, hk => by
    obtain ⟨i1, i2, -⟩ := AI_mvs h l0 hd ht k (by omega)
    unfold aMvs
    dsimp only
    split
    · have hd2 : aMvs S l k 9 l = 0 := by rw [i2]; exact hd
      obtain ⟨j1, -⟩ := AI_mv2 (k := upF (mw (aMvs S l k) 20 k (-6)) (aMvs S l k 1 0).toNat) i1 (b := (k : Int)) (by omega) (by omega) l0 hd2 rfl
      unfold aMv1
      rw [mw_rn (aMvs S l k) _ _ (show (1 : Nat) ≠ 20 by decide), aSettle_o j1 _ (by omega) (by omega) (by omega) (by omega) (by omega) (by omega) (by omega) (by omega) (by omega) (by omega), mw_rn _ _ _ (by omega), mw_rn _ _ _ (by omega), mw_rn _ _ _ (by omega), mvs_hi h l0 hd ht hr k (by omega)]
    · exact mvs_hi h l0 hd ht hr k (by omega)
theorem kp_fail {S : Mem} {l : Int} (h : NI S) : kp S (oFail S l) := by
  unfold oFail
  split
  · rename_i c
    split
    · exact kp_same h
    · have hup := h.2.1.2.1 l
      have hu : S 9 l = 1 := by omega
      have h1 := AI_down h hu
      have e9 : aLose (mw S 9 l 0) l 9 l = 0 := by rw [mw_lose, mw_rs, up1_s]
      have el : ∀ r, r = 5 ∨ 45 ≤ r → aLose (mw S 9 l 0) l r = S r := fun r hr => by
        rw [mw_lose, mw_rn _ _ _ (by omega)]
        exact aLoK_o S l (by omega) (by omega) (by omega) (by omega) (by omega) (by omega) _
      obtain ⟨c1, c2, c3, c4, c5, c6⟩ := AI_can h1 c.1 e9 8 (by omega)
      have hd8 : aCan (aLose (mw S 9 l 0) l) l 8 9 l = 0 := by rw [c3]; exact e9
      obtain ⟨m1, m2, m3, m4, -⟩ := AI_mvs c1 c.1 hd8 (fun b b0 b8 => c6 b b0 (by omega)) 8 (by omega)
      refine ⟨NI_fail h hu, fun r hr => ?_, ?_⟩
      · show aMvs (aCan (aLose (mw S 9 l 0) l) l 8) l 8 r = S r
        rw [mvs_hi c1 c.1 hd8 (fun b b0 b8 => c6 b b0 (by omega)) hr 8 (by omega), can_hi h1 c.1 e9 hr 8 (by omega), el r (Or.inr hr)]
      · show aMvs (aCan (aLose (mw S 9 l 0) l) l 8) l 8 5 0 ≤ _
        rw [m4, c5, el 5 (Or.inl rfl)]; omega
  · exact kp_same h
theorem kp_back {S : Mem} {l : Int} (h : NI S) : kp S (oBack S l) := by
  have hL := h.1.1
  unfold oBack
  split
  · rename_i c
    split
    · have ho : ∀ r, r = 5 ∨ 45 ≤ r → aBack S l r = S r := fun r hr => by
        unfold aBack
        rw [aTake_o _ (by omega) (by omega) (by omega) (by omega) (by omega) (by omega) (by omega) (by omega) (by omega) (by omega), mw_rn _ _ _ (by omega)]
      refine ⟨NI_back h c.1 c.2, fun r hr => ho r (Or.inr hr), ?_⟩
      show aBack S l 5 0 ≤ _
      rw [ho 5 (Or.inl rfl)]; omega
    · exact kp_same h
  · exact kp_same h
