/-! EdgeJoinModel: reading -/
def TM (K : zI) (tx : Nat → Int) (tl : Nat) : Prop := K 137 12 = tl ∧ tl ≤ 150 ∧ ∀ j, j < tl → K 147 j = tx j ∧ 0 ≤ tx j ∧ tx j ≤ 127
/-- only the reading place has changed -/
def FrS (K M : zI) : Prop := (∀ q, q ≠ 137 → M q = K q) ∧ ∀ j, j ≠ 13 → M 137 j = K 137 j
/-- only the reading place and the numbers have changed -/
def FrT (K M : zI) : Prop := (∀ q, q ≠ 137 → q ≠ 148 → M q = K q) ∧ ∀ j, j ≠ 13 → M 137 j = K 137 j
theorem FrT.rf {K : zI} : FrT K K := ⟨fun _ _ _ => rfl, fun _ _ => rfl⟩
theorem FrT.tr {I J K : zI} (h1 : FrT I J) (h2 : FrT J K) : FrT I K := ⟨fun q a b => (h2.1 q a b).trans (h1.1 q a b), fun j a => (h2.2 j a).trans (h1.2 j a)⟩
theorem FrS.t {K M : zI} (h : FrS K M) : FrT K M := ⟨fun q a _ => h.1 q a, h.2⟩
theorem FrS.rf {K : zI} : FrS K K := ⟨fun _ _ => rfl, fun _ _ => rfl⟩
theorem FrS.tr {I J K : zI} (h1 : FrS I J) (h2 : FrS J K) : FrS I K := ⟨fun q a => (h2.1 q a).trans (h1.1 q a), fun j a => (h2.2 j a).trans (h1.2 j a)⟩
theorem FrS.up {K : zI} {x : Int} : FrS K (zup2 K 137 13 x) := ⟨fun q hq => zup2_ne hq, fun j hj => zup2_an hj⟩
theorem TM.fr {K M : zI} {tx : Nat → Int} {tl : Nat} (h : TM K tx tl) (hf : FrT K M) : TM M tx tl := ⟨by rw [hf.2 12 (by omega)]; exact h.1, h.2.1, fun j hj => by rw [hf.1 147 (by omega) (by omega)]; exact h.2.2 j hj⟩
theorem bhM_rng {K : zI} {tx : Nat → Int} {tl : Nat} (h : TM K tx tl) (p : Nat) : -1 ≤ bh tx tl p ∧ bh tx tl p ≤ 127 := by
  unfold bh
  split
  · rename_i hp
    have := (h.2.2 p hp).2
    omega
  · omega
theorem bhM_0 {K : zI} {tx : Nat → Int} {tl p : Nat} (h : TM K tx tl) (hp : p < tl) : 0 ≤ bh tx tl p := by
  unfold bh
  rw [if_pos hp]
  exact (h.2.2 p hp).2.1
def wnm (c : Int) : Int := if c = 116 then 2 else if c = 97 then 3 else if c = 120 then 1 else if c = 109 then 4 else -1
section MR1
variable {L d : Nat} {K : zI} {tx : Nat → Int} {tl : Nat}
theorem m_here {p : Nat} (hT : TM K tx tl) (hp : p ≤ tl) (hs : K 137 13 = p) : Ct L d k_X8_here [vR 137] K (fun r M => r = some (vI (bh tx tl (sk tx tl p))) ∧ M 137 13 = (sk tx tl p : Nat) ∧ FrS K M) := by
  have fin : ∀ (q : Nat) (M : zI), q ≤ tl → TM M tx tl → M 137 13 = q → FrS K M → Go L d k_X8_here 38 [some (vR 137)] [] M (fun r J => r = some (vI (bh tx tl q)) ∧ J 137 13 = (q : Nat) ∧ FrS K J) := by
    intro q M hq hM hs hF
    obtain ⟨t1, t2, t3⟩ := id hM
    refine g_l 39 rfl rfl ?_
    refine g_fi rfl rfl ⟨⟨by decide, by omega, by decide⟩, by decide⟩ ?_
    refine g_l 43 rfl rfl ?_
    refine g_fi rfl rfl ⟨⟨by decide, by omega, by decide⟩, by decide⟩ ?_
    rw [hs, t1]
    refine g_ic_ge rfl (by omega) (by omega) (fun g => ?_) (fun g => ?_)
    · refine g_p 62 rfl rfl ?_
      refine g_ret rfl rfl ⟨?_, hs, hF⟩
      unfold bh
      rw [if_neg (by omega)]
    · refine g_l 50 rfl rfl ?_
      refine g_fr rfl rfl ⟨⟨by decide, by omega, by decide⟩, by decide⟩ rfl ?_
      refine g_l 54 rfl rfl ?_
      refine g_fi rfl rfl ⟨⟨by decide, by omega, by decide⟩, by decide⟩ ?_
      rw [hs]
      refine g_ia q rfl rfl rfl (by omega) ?_
      rw [(t3 q (by omega)).1]
      refine g_goto rfl ?_
      refine g_ret rfl rfl ⟨?_, hs, hF⟩
      unfold bh
      rw [if_pos (by omega)]
  have key : ∀ (m q : Nat) (M : zI), q + m = tl → TM M tx tl → M 137 13 = q → FrS K M → Go L d k_X8_here 0 [some (vR 137)] [] M (fun r J => r = some (vI (bh tx tl (skF tx m q))) ∧ J 137 13 = (skF tx m q : Nat) ∧ FrS K J) := by
    intro m
    induction m with
    | zero =>
      intro q M hq hM hs hF
      have f := fin q M (by omega) hM hs hF
      obtain ⟨t1, t2, t3⟩ := id hM
      refine g_l 1 rfl rfl ?_
      refine g_fi rfl rfl ⟨⟨by decide, by omega, by decide⟩, by decide⟩ ?_
      refine g_l 5 rfl rfl ?_
      refine g_fi rfl rfl ⟨⟨by decide, by omega, by decide⟩, by decide⟩ ?_
      rw [hs, t1]
      refine g_ic_ge rfl (by omega) (by omega) (fun g => ?_) (fun g => ?_)
      · exact f
      · exact absurd g (by omega)
    | succ m ih =>
      intro q M hq hM hs hF
      have f := fin q M (by omega) hM hs hF
      obtain ⟨t1, t2, t3⟩ := id hM
      obtain ⟨u1, u2, u3⟩ := t3 q (by omega)
      refine g_l 1 rfl rfl ?_
      refine g_fi rfl rfl ⟨⟨by decide, by omega, by decide⟩, by decide⟩ ?_
      refine g_l 5 rfl rfl ?_
      refine g_fi rfl rfl ⟨⟨by decide, by omega, by decide⟩, by decide⟩ ?_
      rw [hs, t1]
      refine g_ic_ge rfl (by omega) (by omega) (fun g => ?_) (fun g => ?_)
      · exact absurd g (by omega)
      · refine g_l 12 rfl rfl ?_
        refine g_fr rfl rfl ⟨⟨by decide, by omega, by decide⟩, by decide⟩ rfl ?_
        refine g_l 16 rfl rfl ?_
        refine g_fi rfl rfl ⟨⟨by decide, by omega, by decide⟩, by decide⟩ ?_
        rw [hs]
        refine g_ia q rfl rfl rfl (by omega) ?_
        rw [u1]
        refine g_p 22 rfl rfl ?_
        refine g_ic_ne rfl (by omega) (by omega) (fun g2 => ?_) (fun g2 => ?_)
        · rw [skF, if_neg g2]
          exact f
        · refine g_l 26 rfl rfl ?_
          refine g_p 27 rfl rfl ?_
          refine g_fi rfl rfl ⟨⟨by decide, by omega, by decide⟩, by decide⟩ ?_
          refine g_p 31 rfl rfl ?_
          refine g_p 32 rfl rfl ?_
          refine g_wi rfl rfl ⟨⟨by decide, by omega, by decide⟩, by decide⟩ ?_
          refine g_goto rfl ?_
          rw [hs, skF, if_pos (Decidable.not_not.mp g2)]
          exact ih (q + 1) _ (by omega) (hM.fr FrS.up.t) zup2_at (hF.tr FrS.up)
  show Go L d k_X8_here 0 [some (vR 137)] [] K _
  exact key (tl - p) p K (by omega) hT hs FrS.rf
theorem m_isFigure {p : Nat} (hT : TM K tx tl) (hp : p ≤ tl) (hs : K 137 13 = p) : Ev L (d + 1) k_X8_isFigure [vR 137] K (some (vI (b2i (isd tx tl p)))) K := by
  obtain ⟨t1, t2, t3⟩ := id hT
  show Go L (d + 1) k_X8_isFigure 0 [some (vR 137)] [] K _
  refine g_l 1 rfl rfl ?_
  refine g_fi rfl rfl ⟨⟨by decide, by omega, by decide⟩, by decide⟩ ?_
  refine g_l 5 rfl rfl ?_
  refine g_fi rfl rfl ⟨⟨by decide, by omega, by decide⟩, by decide⟩ ?_
  rw [hs, t1]
  refine g_ic_ge rfl (by omega) (by omega) (fun g => ?_) (fun g => ?_)
  · refine g_p 38 rfl rfl ?_
    exact g_retb rfl rfl (Or.inl rfl) ⟨by rw [← b2i_f (fun z => absurd (isd_lt z) (by omega))], rfl⟩
  · obtain ⟨u1, u2, u3⟩ := t3 p (by omega)
    have e : bh tx tl p = tx p := if_pos (by omega)
    have hb := b2i_r (48 ≤ tx p ∧ tx p ≤ 57)
    refine g_l 12 rfl rfl ?_
    refine g_fr rfl rfl ⟨⟨by decide, by omega, by decide⟩, by decide⟩ rfl ?_
    refine g_l 16 rfl rfl ?_
    refine g_fi rfl rfl ⟨⟨by decide, by omega, by decide⟩, by decide⟩ ?_
    rw [hs]
    refine g_ia p rfl rfl rfl (by omega) ?_
    rw [u1]
    refine g_i2l 21 rfl (by omega) ?_
    refine g_ld2 24 rfl ?_
    refine g_ld2 27 rfl ?_
    refine g_callE rfl (m_in (by omega) (by decide) (by decide)) ?_
    refine g_if_eq rfl (by omega) (fun g2 => ?_) (fun g2 => ?_)
    · have g2 := b2i_0 g2
      refine g_p 38 rfl rfl ?_
      exact g_retb rfl rfl (Or.inl rfl) ⟨by rw [← b2i_f (fun z => g2 (by have z1 := z.1; have z2 := z.2; rw [e] at z1 z2; omega))], rfl⟩
    · have g2 := b2i_1 g2
      refine g_p 34 rfl rfl ?_
      refine g_goto rfl ?_
      exact g_retb rfl rfl (Or.inr rfl) ⟨by rw [← b2i_t (show isd tx tl p from ⟨by rw [e]; omega, by rw [e]; omega⟩)], rfl⟩
theorem m_takesNumber {p i : Nat} (hT : TM K tx tl) (hp : p ≤ tl) (hs : K 137 13 = p) (hi : i < 4) : Ct L (d + 2) k_X8_takesNumber [vR 137, vI i] K (fun r M => r = some (vI (if (nmF tx tl 6 (sk tx tl p) 0).1 = sk tx tl p ∨ isd tx tl (nmF tx tl 6 (sk tx tl p) 0).1 then 0 else 1)) ∧ M 137 13 = ((nmF tx tl 6 (sk tx tl p) 0).1 : Nat) ∧ M 148 i = (nmF tx tl 6 (sk tx tl p) 0).2 ∧ (∀ j, j ≠ i → M 148 j = K 148 j) ∧ FrT K M) := by
  have hsk := sk_rng (tx := tx) hp
  show Go L (d + 2) k_X8_takesNumber 0 [some (vR 137), some (vI i), none, none] [] K _
  refine g_l 1 rfl rfl ?_
  refine g_call rfl (m_here hT hp hs) (fun r J hJ => ?_) (hr := rcvM rfl)
  obtain ⟨rfl, j1, j2⟩ := hJ
  generalize sk tx tl p = s at hsk j1 ⊢
  refine g_l 5 rfl rfl ?_
  refine g_p 6 rfl rfl ?_
  refine g_l 7 rfl rfl ?_
  refine g_l 8 rfl rfl ?_
  refine g_fr rfl rfl ⟨⟨by decide, by omega, by decide⟩, by decide⟩ rfl ?_
  refine g_l 12 rfl rfl ?_
  refine g_p 13 rfl rfl ?_
  refine g_ias i rfl rfl (by omega) rfl (by omega) ?_
  have tail : ∀ (q c : Nat) (x : Int) (M : zI), nmF tx tl 6 s 0 = (q, x) → q = s + c → q ≤ tl → TM M tx tl → M 137 13 = (q : Int) → M 148 i = x → (∀ j, j ≠ i → M 148 j = K 148 j) → FrT K M → Go L (d + 2) k_X8_takesNumber 71 [some (vR 137), some (vI i), some (vI (bh tx tl s)), some (vI c)] [] M (fun r M => r = some (vI (if (nmF tx tl 6 s 0).1 = s ∨ isd tx tl (nmF tx tl 6 s 0).1 then 0 else 1)) ∧ M 137 13 = ((nmF tx tl 6 s 0).1 : Nat) ∧ M 148 i = (nmF tx tl 6 s 0).2 ∧ (∀ j, j ≠ i → M 148 j = K 148 j) ∧ FrT K M) := by
    intro q c x M hq hc hl hM m1 m2 m3 m4
    have hb := bhM_rng hM s
    have h150 := hM.2.1
    have hbr := b2i_r (isd tx tl q)
    rw [hq]
    have bad : (q = s ∨ isd tx tl q) → Go L (d + 2) k_X8_takesNumber 91 [some (vR 137), some (vI i), some (vI (bh tx tl s)), some (vI c)] [] M (fun r M => r = some (vI (if q = s ∨ isd tx tl q then 0 else 1)) ∧ M 137 13 = (q : Int) ∧ M 148 i = x ∧ (∀ j, j ≠ i → M 148 j = K 148 j) ∧ FrT K M) := fun hno => by
      rw [if_pos hno]
      refine g_p 92 rfl rfl ?_
      exact g_retb rfl rfl (Or.inl rfl) ⟨rfl, m1, m2, m3, m4⟩
    show Go L (d + 2) k_X8_takesNumber 71 _ _ M (fun r M => r = some (vI (if q = s ∨ isd tx tl q then 0 else 1)) ∧ M 137 13 = (q : Int) ∧ M 148 i = x ∧ (∀ j, j ≠ i → M 148 j = K 148 j) ∧ FrT K M)
    refine g_l 72 rfl rfl ?_
    refine g_p 73 rfl rfl ?_
    refine g_ic_eq rfl (by omega) (by omega) (fun g1 => ?_) (fun g1 => ?_)
    · refine bad (Or.inl ?_)
      have hns : ¬ s < tl := fun z => by
        have := bhM_0 hM z
        omega
      omega
    · refine g_l 77 rfl rfl ?_
      refine g_if_le rfl (by omega) (fun g2 => ?_) (fun g2 => ?_)
      · exact bad (Or.inl (by omega))
      · refine g_l 81 rfl rfl ?_
        refine g_callE rfl (m_isFigure hM hl m1) ?_ (hr := rcvM rfl)
        refine g_if_ne rfl (by omega) (fun g3 => ?_) (fun g3 => ?_)
        · exact bad (Or.inr (b2i_1 g3))
        · have g3 := b2i_0 (Decidable.not_not.mp g3)
          rw [if_neg (fun z => Or.elim z (fun (z : q = s) => absurd z (by omega)) g3)]
          refine g_p 88 rfl rfl ?_
          refine g_goto rfl ?_
          exact g_retb rfl rfl (Or.inr rfl) ⟨rfl, m1, m2, m3, m4⟩
  have loop : ∀ (f q c : Nat) (x : Int) (M : zI), nmF tx tl f q x = nmF tx tl 6 s 0 → c + f = 6 → q = s + c → q ≤ tl → TM M tx tl → M 137 13 = (q : Int) → M 148 i = x → (∀ j, j ≠ i → M 148 j = K 148 j) → FrT K M → Go L (d + 2) k_X8_takesNumber 14 [some (vR 137), some (vI i), some (vI (bh tx tl s)), some (vI c)] [] M (fun r M => r = some (vI (if (nmF tx tl 6 s 0).1 = s ∨ isd tx tl (nmF tx tl 6 s 0).1 then 0 else 1)) ∧ M 137 13 = ((nmF tx tl 6 s 0).1 : Nat) ∧ M 148 i = (nmF tx tl 6 s 0).2 ∧ (∀ j, j ≠ i → M 148 j = K 148 j) ∧ FrT K M) := by
    intro f
    induction f with
    | zero =>
      intro q c x M hq hf hc hl hM m1 m2 m3 m4
      have hbr := b2i_r (isd tx tl q)
      have t := tail q c x M hq.symm hc hl hM m1 m2 m3 m4
      refine g_l 15 rfl rfl ?_
      refine g_callE rfl (m_isFigure hM hl m1) ?_ (hr := rcvM rfl)
      refine g_if_eq rfl (by omega) (fun g1 => ?_) (fun g1 => ?_)
      · exact t
      · refine g_l 22 rfl rfl ?_
        refine g_p 24 rfl rfl ?_
        refine g_ic_ge rfl (by omega) (by omega) (fun g2 => ?_) (fun g2 => ?_)
        · exact t
        · exact absurd g2 (by omega)
    | succ f ih =>
      intro q c x M hq hf hc hl hM m1 m2 m3 m4
      have hbr := b2i_r (isd tx tl q)
      refine g_l 15 rfl rfl ?_
      refine g_callE rfl (m_isFigure hM hl m1) ?_ (hr := rcvM rfl)
      refine g_if_eq rfl (by omega) (fun g1 => ?_) (fun g1 => ?_)
      · have g1 := b2i_0 g1
        rw [nmF, if_neg g1] at hq
        exact tail q c x M hq.symm hc hl hM m1 m2 m3 m4
      · have g1 := b2i_1 g1
        have hlt := isd_lt g1
        have e : bh tx tl q = tx q := if_pos hlt
        have h147 := (hM.2.2 q hlt).1
        have h150 := hM.2.1
        refine g_l 22 rfl rfl ?_
        refine g_p 24 rfl rfl ?_
        refine g_ic_ge rfl (by omega) (by omega) (fun g2 => ?_) (fun g2 => ?_)
        · exact absurd g2 (by omega)
        · refine g_l 28 rfl rfl ?_
          refine g_fr rfl rfl ⟨⟨by decide, by omega, by decide⟩, by decide⟩ rfl ?_
          refine g_l 32 rfl rfl ?_
          refine g_p 34 rfl rfl ?_
          refine g_l 35 rfl rfl ?_
          refine g_fr rfl rfl ⟨⟨by decide, by omega, by decide⟩, by decide⟩ rfl ?_
          refine g_l 39 rfl rfl ?_
          refine g_ia i rfl rfl rfl (by omega) ?_
          rw [m2]
          refine g_p 41 rfl rfl ?_
          refine g_l 42 rfl rfl ?_
          refine g_fr rfl rfl ⟨⟨by decide, by omega, by decide⟩, by decide⟩ rfl ?_
          refine g_l 46 rfl rfl ?_
          refine g_fi rfl rfl ⟨⟨by decide, by omega, by decide⟩, by decide⟩ ?_
          rw [m1]
          refine g_ia q rfl rfl rfl (by omega) ?_
          rw [h147]
          refine g_p 51 rfl rfl ?_
          refine g_p 53 rfl rfl ?_
          refine g_p 54 rfl rfl ?_
          refine g_ias i rfl rfl (by omega) rfl (by omega) ?_
          refine g_l 56 rfl rfl ?_
          refine g_p 57 rfl rfl ?_
          refine g_fi rfl rfl ⟨⟨by decide, by omega, by decide⟩, by decide⟩ ?_
          refine g_p 61 rfl rfl ?_
          refine g_p 62 rfl rfl ?_
          refine g_wi rfl rfl ⟨⟨by decide, by omega, by decide⟩, by decide⟩ ?_
          refine g_l 68 rfl rfl ?_
          refine g_goto rfl ?_
          rw [zup2_ne (by omega), m1]
          rw [nmF, if_pos g1, e] at hq
          have hF : FrT M (zup2 (zup2 M 148 i (10 * x + tx q - 48)) 137 13 ((q : Int) + 1)) := ⟨fun r r1 r2 => by rw [zup2_ne r1, zup2_ne r2], fun j hj => by rw [zup2_an hj, zup2_ne (by omega)]⟩
          exact ih (q + 1) (c + 1) _ _ hq (by omega) (by omega) (by omega) (hM.fr hF) (by rw [zup2_at]; rfl) (by rw [zup2_ne (by omega), zup2_at]) (fun j hj => by rw [zup2_ne (by omega), zup2_an hj]; exact m3 j hj) (m4.tr hF)
  have hF : FrT J (zup2 J 148 i 0) := ⟨fun r r1 r2 => zup2_ne r2, fun j hj => by rw [zup2_ne (by omega)]⟩
  exact loop 6 s 0 0 _ rfl rfl rfl hsk.2 ((hT.fr j2.t).fr hF) (by rw [zup2_ne (by omega)]; exact j1) zup2_at (fun j hj => by rw [zup2_an hj, j2.1 148 (by omega)]) (j2.t.tr hF)
theorem m_takesCells {p : Nat} (hT : TM K tx tl) (hp : p ≤ tl) (hs : K 137 13 = p) : Ct L (d + 2) k_X8_takesCells [vR 137] K (fun r M => r = some (vI (if (pcF tx tl 16 0 p 0).1 = true then 1 else 0)) ∧ M 137 13 = ((pcF tx tl 16 0 p 0).2.1 : Nat) ∧ ((pcF tx tl 16 0 p 0).1 = true → M 148 0 = (pcF tx tl 16 0 p 0).2.2) ∧ FrT K M) := by
  have key : ∀ (m i q : Nat) (x : Int) (M : zI) (o3 : Option zV), i + m = 16 → q ≤ tl → TM M tx tl → M 137 13 = (q : Int) → FrT K M → Go L (d + 2) k_X8_takesCells 4 [some (vR 137), some (vI x), some (vI i), o3] [] M (fun r M => r = some (vI (if (pcF tx tl m i q x).1 = true then 1 else 0)) ∧ M 137 13 = ((pcF tx tl m i q x).2.1 : Nat) ∧ ((pcF tx tl m i q x).1 = true → M 148 0 = (pcF tx tl m i q x).2.2) ∧ FrT K M) := by
    intro m
    induction m with
    | zero =>
      intro i q x M o3 hi hq hM m1 m2
      refine g_l 5 rfl rfl ?_
      refine g_p 7 rfl rfl ?_
      refine g_ic_ge rfl (by omega) (by omega) (fun g => ?_) (fun g => ?_)
      · refine g_l 59 rfl rfl ?_
        refine g_fr rfl rfl ⟨⟨by decide, by omega, by decide⟩, by decide⟩ rfl ?_
        refine g_p 63 rfl rfl ?_
        refine g_l 64 rfl rfl ?_
        refine g_ias 0 rfl rfl (by omega) rfl (by omega) ?_
        refine g_p 66 rfl rfl ?_
        refine g_retb rfl rfl (Or.inr rfl) ⟨rfl, by rw [zup2_ne (by omega)]; exact m1, fun _ => zup2_at, m2.tr ⟨fun r r1 r2 => zup2_ne r2, fun j hj => by rw [zup2_ne (by omega)]⟩⟩
      · exact absurd g (by omega)
    | succ m ih =>
      intro i q x M o3 hi hq hM m1 m2
      have hsk := sk_rng (tx := tx) hq
      refine g_l 5 rfl rfl ?_
      refine g_p 7 rfl rfl ?_
      refine g_ic_ge rfl (by omega) (by omega) (fun g => ?_) (fun g => ?_)
      · exact absurd g (by omega)
      · refine g_l 11 rfl rfl ?_
        refine g_call rfl (m_here hM hq m1) (fun r J hJ => ?_) (hr := rcvM rfl)
        obtain ⟨rfl, j1, j2⟩ := hJ
        rw [pcF]
        generalize sk tx tl q = s at hsk j1 ⊢
        have hb := bhM_rng hM s
        have hbr := b2i_r (48 ≤ bh tx tl s ∧ bh tx tl s ≤ 51)
        refine g_l 15 rfl rfl ?_
        refine g_l 16 rfl rfl ?_
        refine g_i2l 17 rfl (by omega) ?_
        refine g_ld2 20 rfl ?_
        refine g_ld2 23 rfl ?_
        refine g_callE rfl (m_in (by omega) (by decide) (by decide)) ?_
        refine g_if_ne rfl (by omega) (fun g1 => ?_) (fun g1 => ?_)
        · have g1 := b2i_1 g1
          have hlt := bh_lt (tx := tx) (tl := tl) (p := s) (by omega)
          rw [if_pos (show 0 ≤ bh tx tl s - 48 ∧ bh tx tl s - 48 < 4 by omega)]
          refine g_l 32 rfl rfl ?_
          refine g_l 33 rfl rfl ?_
          refine g_p 35 rfl rfl ?_
          refine g_p 36 rfl rfl ?_
          refine g_p 37 rfl rfl ?_
          refine g_l 38 rfl rfl ?_
          refine g_p 39 rfl rfl ?_
          refine g_p 40 rfl rfl ?_
          refine g_p 41 rfl rfl ?_
          refine g_l 42 rfl rfl ?_
          refine g_l 43 rfl rfl ?_
          refine g_p 44 rfl rfl ?_
          refine g_fi rfl rfl ⟨⟨by decide, by omega, by decide⟩, by decide⟩ ?_
          refine g_p 48 rfl rfl ?_
          refine g_p 49 rfl rfl ?_
          refine g_wi rfl rfl ⟨⟨by decide, by omega, by decide⟩, by decide⟩ ?_
          refine g_l 55 rfl rfl ?_
          refine g_goto rfl ?_
          rw [j1]
          exact ih (i + 1) (s + 1) _ _ _ (by omega) (by omega) ((hM.fr j2.t).fr FrS.up.t) zup2_at ((m2.tr j2.t).tr FrS.up.t)
        · have g1 := b2i_0 (Decidable.not_not.mp g1)
          rw [if_neg (show ¬ (0 ≤ bh tx tl s - 48 ∧ bh tx tl s - 48 < 4) by omega)]
          refine g_p 30 rfl rfl ?_
          exact g_retb rfl rfl (Or.inl rfl) ⟨rfl, j1, fun z => absurd z Bool.false_ne_true, m2.tr j2.t⟩
  show Go L (d + 2) k_X8_takesCells 0 [some (vR 137), none, none, none] [] K _
  refine g_p 1 rfl rfl ?_
  refine g_l 2 rfl rfl ?_
  refine g_p 3 rfl rfl ?_
  refine g_l 4 rfl rfl ?_
  exact key 16 0 p 0 K none (by omega) hp hT hs FrT.rf
theorem m_numbersOf {c : Int} (hc : rng c) : Ev L d k_X8_numbersOf [vI c] K (some (vI (wnm c))) K := by
  show Go L d k_X8_numbersOf 0 [some (vI c)] [] K _
  unfold wnm
  refine g_l 1 rfl rfl ?_
  refine g_p 3 rfl rfl ?_
  refine g_ic_ne rfl (by omega) (by omega) (fun g1 => ?_) (fun g1 => ?_)
  · rw [if_neg g1]
    refine g_l 11 rfl rfl ?_
    refine g_p 13 rfl rfl ?_
    refine g_ic_ne rfl (by omega) (by omega) (fun g2 => ?_) (fun g2 => ?_)
    · rw [if_neg g2]
      refine g_l 21 rfl rfl ?_
      refine g_p 23 rfl rfl ?_
      refine g_ic_ne rfl (by omega) (by omega) (fun g3 => ?_) (fun g3 => ?_)
      · rw [if_neg g3]
        refine g_l 31 rfl rfl ?_
        refine g_p 33 rfl rfl ?_
        refine g_ic_ne rfl (by omega) (by omega) (fun g4 => ?_) (fun g4 => ?_)
        · rw [if_neg g4]
          refine g_p 41 rfl rfl ?_
          exact g_ret rfl rfl ⟨rfl, rfl⟩
        · rw [if_pos (Decidable.not_not.mp g4)]
          refine g_p 37 rfl rfl ?_
          refine g_goto rfl ?_
          exact g_ret rfl rfl ⟨rfl, rfl⟩
      · rw [if_pos (Decidable.not_not.mp g3)]
        refine g_p 27 rfl rfl ?_
        refine g_goto rfl ?_
        exact g_ret rfl rfl ⟨rfl, rfl⟩
    · rw [if_pos (Decidable.not_not.mp g2)]
      refine g_p 17 rfl rfl ?_
      refine g_goto rfl ?_
      exact g_ret rfl rfl ⟨rfl, rfl⟩
  · rw [if_pos (Decidable.not_not.mp g1)]
    refine g_p 7 rfl rfl ?_
    refine g_goto rfl ?_
    exact g_ret rfl rfl ⟨rfl, rfl⟩
theorem wn_wnm (c : Int) : (c = 112 ∧ wnm c = -1 ∧ wn c = 1) ∨ (c ≠ 112 ∧ wnm c = (wn c : Int) ∧ 1 ≤ wn c ∧ wn c ≤ 4) ∨ (c ≠ 112 ∧ wnm c = -1 ∧ wn c = 0) := by
  by_cases h1 : c = 112
  · subst h1
    exact Or.inl ⟨rfl, by decide, by decide⟩
  · by_cases h2 : c = 116
    · subst h2
      exact Or.inr (Or.inl ⟨h1, by decide, by decide, by decide⟩)
    · by_cases h3 : c = 97
      · subst h3
        exact Or.inr (Or.inl ⟨h1, by decide, by decide, by decide⟩)
      · by_cases h4 : c = 120
        · subst h4
          exact Or.inr (Or.inl ⟨h1, by decide, by decide, by decide⟩)
        · by_cases h5 : c = 109
          · subst h5
            exact Or.inr (Or.inl ⟨h1, by decide, by decide, by decide⟩)
          · refine Or.inr (Or.inr ⟨h1, ?_, ?_⟩)
            · unfold wnm
              rw [if_neg h2, if_neg h3, if_neg h4, if_neg h5]
            · unfold wn
              rw [if_neg (by omega), if_neg h2, if_neg h3, if_neg h5]
/-- an order read, with what comes behind it -/
theorem m_parse {p : Nat} {b : Int} {Q : Option zV → zI → Prop} (hT : TM K tx tl) (hp : p ≤ tl) (hs : K 137 13 = p)
    (no : (poF tx tl (sk tx tl p)).1 = false → ∀ M : zI, M 137 13 = ((poF tx tl (sk tx tl p)).2.1 : Nat) → FrT K M → Q (some (vI 0)) M)
    (yes : (poF tx tl (sk tx tl p)).1 = true → ∀ (M : zI) (o4 : Option zV), M 137 13 = ((poF tx tl (sk tx tl p)).2.1 : Nat) → FrT K M → (∀ j, j < wn (bh tx tl (sk tx tl p)) → M 148 j = (poF tx tl (sk tx tl p)).2.2 j) → Go L (d + 3) k_X8_readsOrder 95 [some (vR 137), some (vI b), some (vI (bh tx tl (sk tx tl p))), some (vI (wnm (bh tx tl (sk tx tl p)))), o4] [] M Q) : Go L (d + 3) k_X8_readsOrder 0 [some (vR 137), some (vI b), none, none, none] [] K Q := by
  have hsk := sk_rng (tx := tx) hp
  have hb := bhM_rng hT (sk tx tl p)
  refine g_l 1 rfl rfl ?_
  refine g_call rfl (m_here hT hp hs) (fun r J hJ => ?_) (hr := rcvM rfl)
  obtain ⟨rfl, j1, j2⟩ := hJ
  have hTJ := hT.fr j2.t
  generalize sk tx tl p = s at hsk hb j1 no yes ⊢
  have hw := wn_wnm (bh tx tl s)
  generalize hc : bh tx tl s = c at hb hw yes ⊢
  refine g_l 5 rfl rfl ?_
  refine g_l 6 rfl rfl ?_
  refine g_callE rfl (m_numbersOf (by omega)) ?_
  have ret0 : ∀ (M : zI) (lv : zLv) (n q : Nat), n = 22 ∨ n = 47 ∨ n = 67 ∨ n = 84 → (poF tx tl s).1 = false → (poF tx tl s).2.1 = q → M 137 13 = (q : Int) → FrT K M → Go L (d + 3) k_X8_readsOrder n lv [vI 0] M Q := by
    intro M lv n q hn h1 h2 m1 m2
    rcases hn with rfl | rfl | rfl | rfl
    all_goals exact g_retb rfl rfl (Or.inl rfl) (no h1 M (by rw [h2]; exact m1) m2)
  refine g_l 10 rfl rfl ?_
  refine g_l 11 rfl rfl ?_
  refine g_p 12 rfl rfl ?_
  by_cases hw0 : wn c = 0
  · have hpo : poF tx tl s = (false, s, fun _ => 0) := by
      unfold poF
      rw [hc, if_pos hw0]
    refine g_ic_ne rfl (by omega) (by omega) (fun g1 => ?_) (fun g1 => ?_)
    · exact absurd (show wnm c = -1 by omega) g1
    · refine g_l 16 rfl rfl ?_
      refine g_p 18 rfl rfl ?_
      refine g_ic_eq rfl (by omega) (by omega) (fun g2 => ?_) (fun g2 => ?_)
      · exact absurd g2 (by omega)
      · refine g_p 22 rfl rfl ?_
        exact ret0 J _ 22 s (Or.inl rfl) (by rw [hpo]) (by rw [hpo]) j1 j2.t
  · have hlt : s < tl := wn_lt (tx := tx) (tl := tl) (p := s) (by rw [hc]; exact hw0)
    have go23 : Go L (d + 3) k_X8_readsOrder 23 [some (vR 137), some (vI b), some (vI c), some (vI (wnm c)), none] [] J Q := by
      refine g_l 24 rfl rfl ?_
      refine g_p 25 rfl rfl ?_
      refine g_fi rfl rfl ⟨⟨by decide, by omega, by decide⟩, by decide⟩ ?_
      refine g_p 29 rfl rfl ?_
      refine g_p 30 rfl rfl ?_
      refine g_wi rfl rfl ⟨⟨by decide, by omega, by decide⟩, by decide⟩ ?_
      refine g_l 34 rfl rfl ?_
      refine g_p 36 rfl rfl ?_
      rw [j1]
      have f1 : FrT K (zup2 J 137 13 ((s : Int) + 1)) := j2.t.tr FrS.up.t
      have hT1 : TM (zup2 J 137 13 ((s : Int) + 1)) tx tl := hTJ.fr FrS.up.t
      have hs1 : zup2 J 137 13 ((s : Int) + 1) 137 13 = ((s + 1 : Nat) : Int) := by rw [zup2_at]; rfl
      generalize zup2 J 137 13 ((s : Int) + 1) = J1 at f1 hT1 hs1 ⊢
      have after74 : ∀ (M : zI) (q : Nat) (u : Nat → Int) (o4 : Option zV), pbF tx tl s = (true, q, u) → q ≤ tl → M 137 13 = (q : Int) → FrT K M → (∀ j, j < wn c → M 148 j = u j) → Go L (d + 3) k_X8_readsOrder 74 [some (vR 137), some (vI b), some (vI c), some (vI (wnm c)), o4] [] M Q := by
        intro M q u o4 hpb hq m1 m2 m3
        have hsq := sk_rng (tx := tx) hq
        have hTM := hT.fr m2
        have hbq := bhM_rng hTM (sk tx tl q)
        refine g_l 75 rfl rfl ?_
        refine g_call rfl (m_here hTM hq m1) (fun r N hN => ?_) (hr := rcvM rfl)
        obtain ⟨rfl, n1, n2⟩ := hN
        have hpo : poF tx tl s = if bh tx tl (sk tx tl q) = 59 then (true, sk tx tl q + 1, u) else (false, sk tx tl q, u) := by
          unfold poF
          rw [hc, if_neg hw0, hpb, if_pos rfl]
        refine g_p 80 rfl rfl ?_
        refine g_ic_eq rfl (by omega) (by omega) (fun g => ?_) (fun g => ?_)
        · rw [if_pos g] at hpo
          rw [hpo] at yes
          refine g_l 86 rfl rfl ?_
          refine g_p 87 rfl rfl ?_
          refine g_fi rfl rfl ⟨⟨by decide, by omega, by decide⟩, by decide⟩ ?_
          refine g_p 91 rfl rfl ?_
          refine g_p 92 rfl rfl ?_
          refine g_wi rfl rfl ⟨⟨by decide, by omega, by decide⟩, by decide⟩ ?_
          rw [n1]
          refine yes rfl _ _ ?_ ((m2.tr n2.t).tr FrS.up.t) (fun j hj => ?_)
          · rw [zup2_at]
            rfl
          · rw [zup2_ne (by omega), n2.1 148 (by omega)]
            exact m3 j hj
        · rw [if_neg g] at hpo
          refine g_p 84 rfl rfl ?_
          exact ret0 N _ 84 _ (Or.inr (Or.inr (Or.inr rfl))) (by rw [hpo]) (by rw [hpo]) n1 (m2.tr n2.t)
      by_cases h112 : c = 112
      · have hw1 : wn c = 1 := by rw [h112]; rfl
        have hwm : wnm c = -1 := by rw [h112]; rfl
        have hpb : pbF tx tl s = ((pcF tx tl 16 0 (s + 1) 0).1, (pcF tx tl 16 0 (s + 1) 0).2.1, fun _ => (pcF tx tl 16 0 (s + 1) 0).2.2) := by
          unfold pbF
          rw [hc, if_pos h112]
        refine g_ic_ne rfl (by omega) (by omega) (fun g => ?_) (fun g => ?_)
        · exact absurd h112 g
        · refine g_l 40 rfl rfl ?_
          refine g_call rfl (m_takesCells hT1 (by omega) hs1) (fun r M hM => ?_) (hr := rcvM rfl)
          obtain ⟨rfl, m1, m2, m3⟩ := hM
          have hrg := pcF_rng (tx := tx) (tl := tl) 16 0 (s + 1) 0 (by omega)
          generalize pcF tx tl 16 0 (s + 1) 0 = z at hpb m1 m2 hrg ⊢
          obtain ⟨zb, zq, zx⟩ := z
          cases zb with
          | true =>
            show Go L (d + 3) k_X8_readsOrder 43 _ [vI 1] M Q
            refine g_if_ne rfl (by omega) (fun g2 => ?_) (fun g2 => ?_)
            · refine g_p 49 rfl rfl ?_
              refine g_l 51 rfl rfl ?_
              refine g_l 53 rfl rfl ?_
              refine g_l 54 rfl rfl ?_
              rw [hwm]
              refine g_ic_ge rfl (by omega) (by omega) (fun g3 => ?_) (fun g3 => ?_)
              · have a := after74 M zq (fun _ => zx) (some (vI 0)) hpb hrg.2 m1 (f1.tr m3) (fun j hj => by rw [show j = 0 by omega]; exact m2 rfl)
                rw [hwm] at a
                exact a
              · exact absurd (show (-1 : Int) ≤ 0 by decide) g3
            · exact absurd (show ¬ (1 : Int) = 0 by decide) g2
          | false =>
            show Go L (d + 3) k_X8_readsOrder 43 _ [vI 0] M Q
            have hpo : poF tx tl s = (false, zq, fun _ => zx) := by
              unfold poF
              rw [hc, if_neg hw0, hpb, if_neg Bool.false_ne_true]
            refine g_if_ne rfl (by omega) (fun g2 => ?_) (fun g2 => ?_)
            · exact absurd rfl g2
            · refine g_p 47 rfl rfl ?_
              exact ret0 M _ 47 zq (Or.inr (Or.inl rfl)) (by rw [hpo]) (by rw [hpo]) m1 (f1.tr m3)
      · have hwm : wnm c = (wn c : Int) ∧ 1 ≤ wn c ∧ wn c ≤ 4 := by omega
        have hpb : pbF tx tl s = pnF tx tl (wn c) 0 (s + 1) (fun _ => 0) := by
          unfold pbF
          rw [hc, if_neg h112]
        have loop : ∀ (m i q : Nat) (u : Nat → Int) (M : zI), i + m = wn c → q ≤ tl → M 137 13 = (q : Int) → FrT K M → (∀ j, j < i → M 148 j = u j) → pnF tx tl m i q u = pbF tx tl s → Go L (d + 3) k_X8_readsOrder 51 [some (vR 137), some (vI b), some (vI c), some (vI (wnm c)), some (vI i)] [] M Q := by
          intro m
          induction m with
          | zero =>
            intro i q u M hi hq m1 m2 m3 he
            have a := after74 M q u (some (vI i)) he.symm hq m1 m2 (fun j hj => m3 j (by omega))
            refine g_l 53 rfl rfl ?_
            refine g_l 54 rfl rfl ?_
            refine g_ic_ge rfl (by omega) (by omega) (fun g => ?_) (fun g => ?_)
            · exact a
            · exact absurd g (by omega)
          | succ m ih =>
            intro i q u M hi hq m1 m2 m3 he
            have hnr := nmF_rng (tx := tx) (tl := tl) 6 (sk tx tl q) 0 (sk_rng hq).2
            rw [pnF] at he
            refine g_l 53 rfl rfl ?_
            refine g_l 54 rfl rfl ?_
            refine g_ic_ge rfl (by omega) (by omega) (fun g => ?_) (fun g => ?_)
            · exact absurd g (by omega)
            · refine g_l 58 rfl rfl ?_
              refine g_l 60 rfl rfl ?_
              refine g_call rfl (m_takesNumber (hT.fr m2) hq m1 (by omega)) (fun r N hN => ?_) (hr := rcvM rfl)
              obtain ⟨rfl, n1, n2, n3, n4⟩ := hN
              by_cases hbad : (nmF tx tl 6 (sk tx tl q) 0).1 = sk tx tl q ∨ isd tx tl (nmF tx tl 6 (sk tx tl q) 0).1
              · rw [if_pos hbad] at he ⊢
                have hpo : poF tx tl s = (false, (nmF tx tl 6 (sk tx tl q) 0).1, u) := by
                  unfold poF
                  rw [hc, if_neg hw0, ← he, if_neg Bool.false_ne_true]
                show Go L (d + 3) k_X8_readsOrder 63 _ [vI 0] N Q
                refine g_if_ne rfl (by omega) (fun g2 => ?_) (fun g2 => ?_)
                · exact absurd rfl g2
                · refine g_p 67 rfl rfl ?_
                  exact ret0 N _ 67 _ (Or.inr (Or.inr (Or.inl rfl))) (by rw [hpo]) (by rw [hpo]) n1 (m2.tr n4)
              · rw [if_neg hbad] at he ⊢
                show Go L (d + 3) k_X8_readsOrder 63 _ [vI 1] N Q
                refine g_if_ne rfl (by omega) (fun g2 => ?_) (fun g2 => ?_)
                · refine g_l 71 rfl rfl ?_
                  refine g_goto rfl ?_
                  refine ih (i + 1) _ (zup u i (nmF tx tl 6 (sk tx tl q) 0).2) N (by omega) hnr.2.2 n1 (m2.tr n4) (fun j hj => ?_) he
                  by_cases hji : j = i
                  · rw [hji, zup_s]
                    exact n2
                  · rw [zup_n hji, n3 j hji]
                    exact m3 j (by omega)
                · exact absurd (show ¬ (1 : Int) = 0 by decide) g2
        refine g_ic_ne rfl (by omega) (by omega) (fun g => ?_) (fun g => ?_)
        · refine g_p 49 rfl rfl ?_
          refine g_l 51 rfl rfl ?_
          exact loop (wn c) 0 (s + 1) (fun _ => 0) J1 (by omega) (by omega) hs1 f1 (fun j hj => absurd hj (by omega)) hpb.symm
        · exact absurd (Decidable.not_not.mp g) h112
    refine g_ic_ne rfl (by omega) (by omega) (fun g1 => ?_) (fun g1 => ?_)
    · exact go23
    · refine g_l 16 rfl rfl ?_
      refine g_p 18 rfl rfl ?_
      refine g_ic_eq rfl (by omega) (by omega) (fun g2 => ?_) (fun g2 => ?_)
      · exact go23
      · exact absurd (show c = 112 by omega) g2
end MR1
