/-! EdgeJoinModel: neighbours, gains, puts, costs -/
theorem besideB : ∀ w, w < 9 → ∀ g, g < 9 → w * g ≤ 8 → ∀ p, p < 8 → p < w * g → decide (p / w + 1 = g) = decide (w * g ≤ p + w) := by decide +kernel
theorem besideN (w : Nat) (hw : w < 9) (g : Nat) (hg : g < 9) (h8 : w * g ≤ 8) (_ : 1 ≤ w) (_ : 1 ≤ g) (p : Nat) (hp : p < 8) (hpw : p < w * g) : p / w + 1 = g ↔ ¬ p + w < w * g := by
  have h := decide_eq_decide.mp (besideB w hw g hg h8 p hp hpw)
  rw [h]
  omega
theorem colN : ∀ w, w < 9 → 1 ≤ w → ∀ p, p < 8 → ((0 < (p + 1) % w) ↔ p % w + 1 < w) := by decide +kernel
theorem colE : ∀ w, w < 9 → ∀ g, g < 9 → w * g ≤ 8 → 1 ≤ w → 1 ≤ g → (w * g - 1) % w + 1 = w := by decide +kernel
/-- the size as whole numbers -/
theorem fS_nat {v : Nat → Int} (ho : OKv v) : ∃ wn gn : Nat, v 9 = wn ∧ v 10 = gn ∧ (1 ≤ wn ∧ wn ≤ 8) ∧ (1 ≤ gn ∧ gn ≤ 8) ∧ 1 ≤ wn * gn ∧ wn * gn ≤ 8 ∧ fS v = ((wn * gn : Nat) : Int) := by
  obtain ⟨wn, gn, e1, e2, h1, h2, h3, h4⟩ := tsz_nat ho.2.2.1
  refine ⟨wn, gn, e1, e2, h1, h2, h3, h4, ?_⟩
  unfold fS
  rw [e1, e2]
  exact (Int.natCast_mul _ _).symm
section MK2
variable {L d : Nat} {I : zI} {v : Nat → Int} {hs : Nat → Nat → Int} {hn : Nat} {ct tx : Nat → Int} {tl : Nat}
theorem m_sideOf {t s : Int} (ht : 0 ≤ t ∧ t ≤ 3) (hs1 : 0 ≤ s ∧ s ≤ 3) : Ev L d k_X8_sideOf [vI t, vI s] I (some (vI ((s - t + 4) % 4))) I := by
  show Go L d k_X8_sideOf 0 [some (vI t), some (vI s)] [] I _
  refine g_l 1 rfl rfl ?_
  refine g_l 2 rfl rfl ?_
  refine g_p 3 rfl rfl ?_
  refine g_p 4 rfl rfl ?_
  refine g_p 5 rfl rfl ?_
  refine g_p 6 rfl rfl ?_
  refine g_rem 7 rfl (by omega) (by omega) ?_
  exact g_ret rfl rfl ⟨rfl, rfl⟩
theorem m_between {a o : Nat} {s : Int} (hA : AL I v) (ho : OKv v) (ha : a < 4 * fN v) (hb : o < 4 * fN v) (hs1 : 0 ≤ s ∧ s ≤ 3) : Ev L (d + 3) k_X8_between [vR 137, vI a, vI s, vI o] I (some (vI (tdf (fC v) a s o))) I := by
  have hf := fN_le ho
  have ea : (a : Int) / 4 = ((a / 4 : Nat) : Int) := by omega
  have eo : (o : Int) / 4 = ((o / 4 : Nat) : Int) := by omega
  obtain ⟨x, hx⟩ := Int.eq_ofNat_of_zero_le (show 0 ≤ (s - (a : Int) % 4 + 4) % 4 by omega)
  obtain ⟨y, hy⟩ := Int.eq_ofNat_of_zero_le (show 0 ≤ ((s + 2) % 4 - (o : Int) % 4 + 4) % 4 by omega)
  have h1 : (sdT a s).toNat = 4 * (a / 4) + x := by
    unfold sdT
    omega
  have h2 : (sdT o ((s + 2) % 4)).toNat = 4 * (o / 4) + y := by
    unfold sdT
    omega
  unfold tdf
  rw [h1, h2, fC_ps (by omega) (by omega), fC_ps (by omega) (by omega)]
  show Go L (d + 3) k_X8_between 0 [some (vR 137), some (vI a), some (vI s), some (vI o)] [] I _
  refine g_l 1 rfl rfl ?_
  refine g_l 2 rfl rfl ?_
  refine g_p 3 rfl rfl ?_
  refine g_div 4 rfl (by omega) (by omega) ?_
  rw [ea]
  refine g_l 5 rfl rfl ?_
  refine g_p 6 rfl rfl ?_
  refine g_rem 7 rfl (by omega) (by omega) ?_
  refine g_l 8 rfl rfl ?_
  refine g_callE rfl (m_sideOf (by omega) hs1) ?_
  rw [hx]
  refine g_l 12 rfl rfl ?_
  refine g_p 13 rfl rfl ?_
  refine g_div 14 rfl (by omega) (by omega) ?_
  rw [eo]
  refine g_l 15 rfl rfl ?_
  refine g_p 16 rfl rfl ?_
  refine g_rem 17 rfl (by omega) (by omega) ?_
  refine g_l 18 rfl rfl ?_
  refine g_p 19 rfl rfl ?_
  refine g_p 20 rfl rfl ?_
  refine g_p 21 rfl rfl ?_
  refine g_rem 22 rfl (by omega) (by omega) ?_
  refine g_callE rfl (m_sideOf (by omega) (by omega)) ?_
  rw [hy]
  refine g_callE rfl (m_unlikeOf hA (by omega) (by omega) (by omega) (by omega)) ?_ (hr := rcvM rfl)
  exact g_ret rfl rfl ⟨rfl, rfl⟩
theorem m_beside {p : Nat} {s : Int} (hA : AL I v) (ho : OKv v) (hp : (p : Int) < fS v) (hs1 : 0 ≤ s ∧ s ≤ 3) : Ev L (d + 1) k_X8_beside [vR 137, vI p, vI s] I (some (vI (nb (v 9) (fS v) p s))) I := by
  obtain ⟨wn, gn, e9, e10, w1, g1, n1, n8, eS⟩ := fS_nat ho
  have hb := besideN wn (by omega) gn (by omega) n8 w1.1 g1.1 p (by omega) (by omega)
  have em : (p : Int) % (wn : Int) = ((p % wn : Nat) : Int) := (Int.natCast_emod _ _).symm
  obtain ⟨pd, hpd⟩ : ∃ pd, pd = p / wn := ⟨_, rfl⟩
  rw [← hpd] at hb
  have ed : (p : Int) / (wn : Int) = (pd : Int) := by rw [hpd]; exact (Int.natCast_ediv _ _).symm
  have lm := Nat.mod_lt p (show 0 < wn by omega)
  have ld : pd ≤ p := by rw [hpd]; exact Nat.div_le_self p wn
  have tail : ∀ (b : Int), (b = 1 ∧ nb (v 9) (fS v) p s = -1 ∨ b = 0 ∧ nb (v 9) (fS v) p s = (if s = 0 then (p : Int) - v 9 else if s = 1 then (p : Int) + 1 else if s = 2 then (p : Int) + v 9 else (p : Int) - 1)) → Go L (d + 1) k_X8_beside 90 [some (vR 137), some (vI p), some (vI s), none] [vI b] I (fun r J => r = some (vI (nb (v 9) (fS v) p s)) ∧ J = I) := by
    intro b hb
    refine g_l 91 rfl rfl ?_
    refine g_l 92 rfl rfl ?_
    rcases hb with ⟨rfl, hb⟩ | ⟨rfl, hb⟩
    · refine g_if_eq rfl (by omega) (fun g => ?_) (fun g => ?_)
      · exact absurd g (by decide)
      · refine g_p 96 rfl rfl ?_
        refine g_goto rfl ?_
        rw [hb]
        exact g_ret rfl rfl ⟨rfl, rfl⟩
    · refine g_if_eq rfl (by omega) (fun g => ?_) (fun g => ?_)
      · refine g_l 100 rfl rfl ?_
        rw [hb]
        refine g_if_ne rfl (by omega) (fun g0 => ?_) (fun g0 => ?_)
        · rw [if_neg g0]
          refine g_l 113 rfl rfl ?_
          refine g_p 114 rfl rfl ?_
          refine g_ic_ne rfl (by omega) (by omega) (fun g1 => ?_) (fun g1 => ?_)
          · rw [if_neg g1]
            refine g_l 124 rfl rfl ?_
            refine g_p 125 rfl rfl ?_
            refine g_ic_ne rfl (by omega) (by omega) (fun g2 => ?_) (fun g2 => ?_)
            · rw [if_neg g2]
              refine g_l 138 rfl rfl ?_
              refine g_p 139 rfl rfl ?_
              refine g_p 140 rfl rfl ?_
              exact g_ret rfl rfl ⟨rfl, rfl⟩
            · rw [if_pos (Decidable.not_not.mp g2)]
              refine g_l 129 rfl rfl ?_
              refine g_l 130 rfl rfl ?_
              refine g_callE rfl (m_wide hA) ?_ (hr := rcvM rfl)
              refine g_p 134 rfl rfl ?_
              refine g_goto rfl ?_
              exact g_ret rfl rfl ⟨rfl, rfl⟩
          · rw [if_pos (Decidable.not_not.mp g1)]
            refine g_l 118 rfl rfl ?_
            refine g_p 119 rfl rfl ?_
            refine g_p 120 rfl rfl ?_
            refine g_goto rfl ?_
            exact g_ret rfl rfl ⟨rfl, rfl⟩
        · rw [if_pos (Decidable.not_not.mp g0)]
          refine g_l 104 rfl rfl ?_
          refine g_l 105 rfl rfl ?_
          refine g_callE rfl (m_wide hA) ?_ (hr := rcvM rfl)
          refine g_p 109 rfl rfl ?_
          refine g_goto rfl ?_
          exact g_ret rfl rfl ⟨rfl, rfl⟩
      · exact absurd rfl g
  show Go L (d + 1) k_X8_beside 0 [some (vR 137), some (vI p), some (vI s), none] [] I _
  refine g_l 1 rfl rfl ?_
  refine g_if_ne rfl (by omega) (fun g0 => ?_) (fun g0 => ?_)
  · refine g_l 21 rfl rfl ?_
    refine g_p 22 rfl rfl ?_
    refine g_ic_ne rfl (by omega) (by omega) (fun g1 => ?_) (fun g1 => ?_)
    · refine g_l 49 rfl rfl ?_
      refine g_p 50 rfl rfl ?_
      refine g_ic_ne rfl (by omega) (by omega) (fun g2 => ?_) (fun g2 => ?_)
      · have hs3 : s = 3 := by omega
        subst hs3
        have n3 : nb (v 9) (fS v) p 3 = if 0 < (p : Int) % (v 9) then (p : Int) - 1 else -1 := rfl
        rw [e9, em] at n3
        refine g_l 77 rfl rfl ?_
        refine g_l 78 rfl rfl ?_
        refine g_callE rfl (m_wide hA) ?_ (hr := rcvM rfl)
        rw [e9]
        refine g_rem 82 rfl (by omega) (by omega) ?_
        rw [em]
        rw [← e9]
        refine g_if_ne rfl (by omega) (fun g3 => ?_) (fun g3 => ?_)
        · refine g_p 90 rfl rfl ?_
          refine tail 0 (Or.inr ⟨rfl, ?_⟩)
          rw [← e9] at n3
          rw [n3, if_pos (by omega)]
          rfl
        · refine g_p 86 rfl rfl ?_
          refine g_goto rfl ?_
          refine tail 1 (Or.inl ⟨rfl, ?_⟩)
          rw [← e9] at n3
          rw [n3, if_neg (by omega)]
      · have hs2 : s = 2 := Decidable.not_not.mp g2
        subst hs2
        have n2 : nb (v 9) (fS v) p 2 = if (p : Int) + v 9 < fS v then (p : Int) + v 9 else -1 := rfl
        refine g_l 54 rfl rfl ?_
        refine g_l 55 rfl rfl ?_
        refine g_callE rfl (m_wide hA) ?_ (hr := rcvM rfl)
        have e9' := e9
        rw [show vI (v 9) = vI ((wn : Nat) : Int) by rw [e9]]
        refine g_div 59 rfl (by omega) (by omega) ?_
        refine g_l 60 rfl rfl ?_
        rw [ed]
        refine g_callE rfl (m_high hA) ?_ (hr := rcvM rfl)
        rw [show vI (v 10) = vI ((gn : Nat) : Int) by rw [e10]]
        refine g_p 64 rfl rfl ?_
        refine g_p 65 rfl rfl ?_
        refine g_ic_ne rfl (by omega) (by omega) (fun g3 => ?_) (fun g3 => ?_)
        · refine g_p 73 rfl rfl ?_
          refine g_goto rfl ?_
          refine tail 0 (Or.inr ⟨rfl, ?_⟩)
          rw [n2, if_pos (by omega)]
          rfl
        · refine g_p 69 rfl rfl ?_
          refine g_goto rfl ?_
          refine tail 1 (Or.inl ⟨rfl, ?_⟩)
          rw [n2, if_neg (by omega)]
    · have hs1 : s = 1 := Decidable.not_not.mp g1
      subst hs1
      have n1' : nb (v 9) (fS v) p 1 = if (p : Int) % v 9 < v 9 - 1 then (p : Int) + 1 else -1 := rfl
      refine g_l 26 rfl rfl ?_
      refine g_l 27 rfl rfl ?_
      refine g_callE rfl (m_wide hA) ?_ (hr := rcvM rfl)
      rw [show vI (v 9) = vI ((wn : Nat) : Int) by rw [e9]]
      refine g_rem 31 rfl (by omega) (by omega) ?_
      refine g_l 32 rfl rfl ?_
      rw [em]
      refine g_callE rfl (m_wide hA) ?_ (hr := rcvM rfl)
      have n1'' : nb (v 9) (fS v) p 1 = if ((p % wn : Nat) : Int) < v 9 - 1 then (p : Int) + 1 else -1 := by
        rw [n1', ← em, ← e9]
      refine g_p 36 rfl rfl ?_
      refine g_p 37 rfl rfl ?_
      refine g_ic_ne rfl (by omega) (by omega) (fun g3 => ?_) (fun g3 => ?_)
      · refine g_p 45 rfl rfl ?_
        refine g_goto rfl ?_
        refine tail 0 (Or.inr ⟨rfl, ?_⟩)
        rw [n1'', if_pos (by omega)]
        rfl
      · refine g_p 41 rfl rfl ?_
        refine g_goto rfl ?_
        refine tail 1 (Or.inl ⟨rfl, ?_⟩)
        rw [n1'', if_neg (by omega)]
  · have hs0 : s = 0 := Decidable.not_not.mp g0
    subst hs0
    have n0 : nb (v 9) (fS v) p 0 = if v 9 ≤ (p : Int) then (p : Int) - v 9 else -1 := rfl
    refine g_l 5 rfl rfl ?_
    refine g_l 6 rfl rfl ?_
    refine g_callE rfl (m_wide hA) ?_ (hr := rcvM rfl)
    refine g_ic_ge rfl (by omega) (by omega) (fun g3 => ?_) (fun g3 => ?_)
    · refine g_p 17 rfl rfl ?_
      refine g_goto rfl ?_
      refine tail 0 (Or.inr ⟨rfl, ?_⟩)
      rw [n0, if_pos g3]
      rfl
    · refine g_p 13 rfl rfl ?_
      refine g_goto rfl ?_
      refine tail 1 (Or.inl ⟨rfl, ?_⟩)
      rw [n0, if_neg g3]
theorem m_gain {p x : Nat} (hA : AL I v) (ho : OKv v) (hp : (p : Int) < fS v) (hx : x < 4 * fN v) : Ev L (d + 4) k_X8_gain [vR 137, vI p, vI x] I (some (vI (adA v p x))) I := by
  have hf := fN_le ho
  have hS := fS_rng ho
  have h4 := ho.2.2.2.1
  have key : ∀ (m q : Nat) (y : Int) (o5 : Option zV), q + m = 4 → Go L (d + 4) k_X8_gain 5 [some (vR 137), some (vI p), some (vI x), some (vI y), some (vI q), o5] [] I (fun r J => r = some (vI (y + adF (fC v) (vc v) (v 9) (fS v) p x m q)) ∧ J = I) := by
    intro m
    induction m with
    | zero =>
      intro q y o5 hq
      refine g_l 7 rfl rfl ?_
      refine g_p 8 rfl rfl ?_
      refine g_ic_ge rfl (by omega) (by omega) (fun g => ?_) (fun g => ?_)
      · refine g_l 62 rfl rfl ?_
        exact g_ret rfl rfl ⟨by simp [adF], rfl⟩
      · exact absurd g (by omega)
    | succ m ih =>
      intro q y o5 hq
      have hnr := nb_rng (q := (q : Int)) hS.2.2 (p := p) (n := fS v) ⟨by omega, hp⟩ hS.2.1
      refine g_l 7 rfl rfl ?_
      refine g_p 8 rfl rfl ?_
      refine g_ic_ge rfl (by omega) (by omega) (fun g => ?_) (fun g => ?_)
      · exact absurd g (by omega)
      · refine g_l 12 rfl rfl ?_
        refine g_l 13 rfl rfl ?_
        refine g_l 15 rfl rfl ?_
        refine g_callE rfl (m_beside hA ho hp (by omega)) ?_ (hr := rcvM rfl)
        rw [adF, ← Int.add_assoc]
        refine g_l 20 rfl rfl ?_
        refine g_l 21 rfl rfl ?_
        refine g_l 23 rfl rfl ?_
        refine g_p 24 rfl rfl ?_
        refine g_ic_eq rfl (by omega) (by omega) (fun g1 => ?_) (fun g1 => ?_)
        · refine g_p 53 rfl rfl ?_
          refine g_p 54 rfl rfl ?_
          refine g_l 55 rfl rfl ?_
          refine g_l 58 rfl rfl ?_
          refine g_goto rfl ?_
          rw [if_neg (fun z => z.1 g1)]
          exact ih (q + 1) _ _ (by omega)
        · obtain ⟨o, hoN⟩ := Int.eq_ofNat_of_zero_le (show 0 ≤ nb (v 9) (fS v) p q by omega)
          rw [hoN] at hnr g1 ⊢
          have h4o := h4 o (by omega)
          rw [Int.toNat_natCast]
          refine g_l 28 rfl rfl ?_
          refine g_l 30 rfl rfl ?_
          refine g_callE rfl (m_lies hA (by omega)) ?_ (hr := rcvM rfl)
          refine g_if_lt rfl (by omega) (fun g2 => ?_) (fun g2 => ?_)
          · refine g_p 53 rfl rfl ?_
            refine g_p 54 rfl rfl ?_
            refine g_l 55 rfl rfl ?_
            refine g_l 58 rfl rfl ?_
            refine g_goto rfl ?_
            rw [if_neg (fun z => z.2 (show v (11 + o) = -1 by omega))]
            exact ih (q + 1) _ _ (by omega)
          · obtain ⟨u, hu⟩ := Int.eq_ofNat_of_zero_le (show 0 ≤ v (11 + o) by omega)
            rw [if_pos ⟨g1, show v (11 + o) ≠ -1 by omega⟩, show vc v o = (u : Int) from hu]
            refine g_l 37 rfl rfl ?_
            refine g_l 38 rfl rfl ?_
            refine g_l 40 rfl rfl ?_
            refine g_l 41 rfl rfl ?_
            refine g_l 43 rfl rfl ?_
            refine g_callE rfl (m_lies hA (by omega)) ?_ (hr := rcvM rfl)
            rw [hu]
            refine g_callE rfl (m_between hA ho hx (by omega) (by omega)) ?_ (hr := rcvM rfl)
            refine g_goto rfl ?_
            refine g_p 54 rfl rfl ?_
            refine g_l 55 rfl rfl ?_
            refine g_l 58 rfl rfl ?_
            refine g_goto rfl ?_
            exact ih (q + 1) _ _ (by omega)
  show Go L (d + 4) k_X8_gain 0 [some (vR 137), some (vI p), some (vI x), none, none, none] [] I _
  refine g_p 1 rfl rfl ?_
  refine g_l 2 rfl rfl ?_
  refine g_p 3 rfl rfl ?_
  refine g_l 5 rfl rfl ?_
  have h := key 4 0 0 none (by omega)
  rw [Int.zero_add] at h
  exact h
def cPut (v : Nat → Int) (p k t : Int) : Int := if (0 ≤ p ∧ p < fS v) ∧ (0 ≤ k ∧ k < v 0) ∧ 0 ≤ t ∧ t < 4 then (if v (11 + p.toNat) = -1 ∧ pl (vc v) (fS v) k = -1 then 0 else -3) else -2
theorem m_canPut {p k t : Int} (hA : AL I v) (ho : OKv v) (hp : rng p) (hk : rng k) (ht : rng t) : Ev L (d + 3) k_X8_canPut [vR 137, vI p, vI k, vI t] I (some (vI (cPut v p k t))) I := by
  have hS := fS_rng ho
  have h0 := ho.1
  have b1 := b2i_r (0 ≤ p ∧ p < fS v)
  have b2 := b2i_r (0 ≤ k ∧ k < v 0)
  have b3 := b2i_r (0 ≤ t ∧ t ≤ 3)
  have bad : ¬ ((0 ≤ p ∧ p < fS v) ∧ (0 ≤ k ∧ k < v 0) ∧ 0 ≤ t ∧ t < 4) → Go L (d + 3) k_X8_canPut 28 [some (vR 137), some (vI p), some (vI k), some (vI t)] [] I (fun r J => r = some (vI (cPut v p k t)) ∧ J = I) := fun hno => by
    refine g_p 30 rfl rfl ?_
    refine g_goto rfl ?_
    unfold cPut
    rw [if_neg hno]
    exact g_ret rfl rfl ⟨rfl, rfl⟩
  show Go L (d + 3) k_X8_canPut 0 [some (vR 137), some (vI p), some (vI k), some (vI t)] [] I _
  refine g_l 1 rfl rfl ?_
  refine g_l 2 rfl rfl ?_
  refine g_callE rfl (m_isPlace hA ho hp) ?_ (hr := rcvM rfl)
  refine g_if_eq rfl (by omega) (fun g1 => ?_) (fun g1 => ?_)
  · exact bad (fun z => b2i_0 g1 z.1)
  · have g1 := b2i_1 g1
    refine g_l 9 rfl rfl ?_
    refine g_l 10 rfl rfl ?_
    refine g_callE rfl (m_isPiece hA ho hk) ?_ (hr := rcvM rfl)
    refine g_if_eq rfl (by omega) (fun g2 => ?_) (fun g2 => ?_)
    · exact bad (fun z => b2i_0 g2 z.2.1)
    · have g2 := b2i_1 g2
      refine g_l 17 rfl rfl ?_
      refine g_i2l 18 rfl (by omega) ?_
      refine g_lc0 19 rfl ?_
      refine g_ld2 22 rfl ?_
      refine g_callE rfl (m_in (by omega) (by decide) (by decide)) ?_
      refine g_if_ne rfl (by omega) (fun g3 => ?_) (fun g3 => ?_)
      · have g3 := b2i_1 g3
        obtain ⟨pn, hpn⟩ := Int.eq_ofNat_of_zero_le g1.1
        subst hpn
        have h4 := ho.2.2.2.1 pn (by omega)
        have hpl := pl_8 ho k
        unfold cPut
        rw [if_pos ⟨g1, g2, by omega, by omega⟩, Int.toNat_natCast]
        refine g_l 34 rfl rfl ?_
        refine g_l 35 rfl rfl ?_
        refine g_callE rfl (m_lies hA (by omega)) ?_ (hr := rcvM rfl)
        refine g_if_ge rfl (by omega) (fun g4 => ?_) (fun g4 => ?_)
        · refine g_p 52 rfl rfl ?_
          refine g_goto rfl ?_
          rw [if_neg (fun z => absurd z.1 (by omega))]
          exact g_ret rfl rfl ⟨rfl, rfl⟩
        · refine g_l 42 rfl rfl ?_
          refine g_l 43 rfl rfl ?_
          refine g_callE rfl (m_placeOf hA ho hk) ?_ (hr := rcvM rfl)
          refine g_p 47 rfl rfl ?_
          refine g_ic_eq rfl (by omega) (by omega) (fun g5 => ?_) (fun g5 => ?_)
          · refine g_p 56 rfl rfl ?_
            rw [if_pos ⟨by omega, g5⟩]
            exact g_ret rfl rfl ⟨rfl, rfl⟩
          · refine g_p 52 rfl rfl ?_
            refine g_goto rfl ?_
            rw [if_neg (fun z => g5 z.2)]
            exact g_ret rfl rfl ⟨rfl, rfl⟩
      · exact bad (fun z => b2i_0 (Decidable.not_not.mp g3) (by omega))
theorem m_putNow {p k t : Nat} (hA : AL I v) (ho : OKv v) (hp : (p : Int) < fS v) (hk : k < fN v) (ht : t < 4) : Ct L (d + 5) k_X8_putNow [vR 137, vI p, vI k, vI t] I (fun r J => r = some (vI (adA v p (4 * (k : Int) + t))) ∧ AL J (zup v (11 + p) (4 * (k : Int) + t)) ∧ ∀ q, q ≠ 138 → J q = I q) := by
  have hS := fS_rng ho
  have hf := fN_le ho
  have e : 4 * (k : Int) + (t : Int) = ((4 * k + t : Nat) : Int) := by omega
  show Go L (d + 5) k_X8_putNow 0 [some (vR 137), some (vI p), some (vI k), some (vI t), none] [] I _
  refine g_l 1 rfl rfl ?_
  refine g_l 2 rfl rfl ?_
  refine g_p 3 rfl rfl ?_
  refine g_l 4 rfl rfl ?_
  refine g_p 5 rfl rfl ?_
  refine g_l 6 rfl rfl ?_
  refine g_p 7 rfl rfl ?_
  rw [e]
  refine g_callE rfl (m_gain hA ho hp (by omega)) ?_ (hr := rcvM rfl)
  refine g_l 12 rfl rfl ?_
  refine g_l 13 rfl rfl ?_
  refine g_fr rfl rfl ⟨⟨by decide, by omega, by decide⟩, by decide⟩ rfl ?_
  refine g_p 18 rfl rfl ?_
  refine g_l 19 rfl rfl ?_
  refine g_p 20 rfl rfl ?_
  refine g_p 21 rfl rfl ?_
  refine g_l 22 rfl rfl ?_
  refine g_p 23 rfl rfl ?_
  refine g_l 24 rfl rfl ?_
  refine g_p 25 rfl rfl ?_
  refine g_ias (11 + p) rfl rfl (by omega) (by omega) (by omega) ?_
  refine g_l 28 rfl rfl ?_
  rw [e]
  refine g_ret rfl rfl ⟨rfl, fun j hj => ?_, fun q hq => zup2_ne hq⟩
  rw [zup2_fn]
  exact zup_pt (N := 19) hA rfl j hj
theorem m_puts {p k t : Int} (h : MI I v hs hn ct tx tl) (hp : rng p) (hk : rng k) (ht : rng t) : Ct L (d + 6) k_X8_puts [vR 137, vI p, vI k, vI t] I (PY I (sPut v p k t) v hs hn ct tx tl) := by
  have hok := ok_put (p := p) (k := k) (t := t) h.2.1
  have hS := fS_rng h.2.1
  have hf := fN_le h.2.1
  show Go L (d + 6) k_X8_puts 0 [some (vR 137), some (vI p), some (vI k), some (vI t), none] [] I _
  refine g_l 1 rfl rfl ?_
  refine g_l 2 rfl rfl ?_
  refine g_l 3 rfl rfl ?_
  refine g_l 4 rfl rfl ?_
  refine g_callE rfl (m_canPut h.1 h.2.1 hp hk ht) ?_ (hr := rcvM rfl)
  have no : ∀ z, why3 z → cPut v p k t = z → sPut v p k t = (z, v) → Go L (d + 6) k_X8_puts 7 [some (vR 137), some (vI p), some (vI k), some (vI t), none] [vI (cPut v p k t)] I (PY I (sPut v p k t) v hs hn ct tx tl) := fun z hz h1 h2 => by
    rw [h1, h2]
    refine g_l 9 rfl rfl ?_
    refine g_l 11 rfl rfl ?_
    refine g_if_ge rfl (by omega) (fun g => ?_) (fun g => ?_)
    · exact absurd g (by omega)
    · refine g_l 15 rfl rfl ?_
      refine g_l 17 rfl rfl ?_
      refine g_call rfl (m_refuse hz h) (fun r J hJ => ?_) (hr := rcvM rfl)
      obtain ⟨rfl, hJ⟩ := hJ
      exact g_ret rfl rfl (PY.no hz hJ)
  by_cases h1 : (0 ≤ p ∧ p < v 9 * v 10) ∧ (0 ≤ k ∧ k < v 0) ∧ 0 ≤ t ∧ t < 4
  · by_cases h2 : v (11 + p.toNat) = -1 ∧ pl (vc v) (v 9 * v 10) k = -1
    · have e1 : cPut v p k t = 0 := by
        unfold cPut
        rw [if_pos (show (0 ≤ p ∧ p < fS v) ∧ (0 ≤ k ∧ k < v 0) ∧ 0 ≤ t ∧ t < 4 from h1), if_pos (show v (11 + p.toNat) = -1 ∧ pl (vc v) (fS v) k = -1 from h2)]
      have e2 : sPut v p k t = (adA v p (4 * k + t), zup v (11 + p.toNat) (4 * k + t)) := by
        unfold sPut
        rw [if_pos h1, if_pos h2]
        rfl
      rw [e1, e2]
      rw [e2] at hok
      have had := adA_rng v p (4 * k + t)
      obtain ⟨pn, hpn⟩ := Int.eq_ofNat_of_zero_le h1.1.1
      obtain ⟨kn, hkn⟩ := Int.eq_ofNat_of_zero_le h1.2.1.1
      obtain ⟨tn, htn⟩ := Int.eq_ofNat_of_zero_le h1.2.2.1
      subst hpn
      subst hkn
      subst htn
      rw [Int.toNat_natCast] at hok ⊢
      refine g_l 9 rfl rfl ?_
      refine g_l 11 rfl rfl ?_
      refine g_if_ge rfl (by omega) (fun g => ?_) (fun g => ?_)
      · refine g_l 22 rfl rfl ?_
        refine g_call rfl (m_keep h) (fun r J hJ => ?_) (hr := rcvM rfl)
        obtain ⟨rfl, hJ⟩ := hJ
        refine g_l 26 rfl rfl ?_
        refine g_l 27 rfl rfl ?_
        refine g_l 28 rfl rfl ?_
        refine g_l 29 rfl rfl ?_
        refine g_call rfl (m_putNow hJ.1.1 hJ.1.2.1 h1.1.2 (by omega) (by omega)) (fun r K hK => ?_) (hr := rcvM rfl)
        obtain ⟨rfl, k1, k2⟩ := hK
        exact g_ret rfl rfl (PY.yes had.1 hJ k1 hok k2)
      · exact absurd (show (0 : Int) ≤ 0 by decide) g
    · refine no (-3) (Or.inr (Or.inl rfl)) ?_ ?_
      · unfold cPut
        rw [if_pos (show (0 ≤ p ∧ p < fS v) ∧ (0 ≤ k ∧ k < v 0) ∧ 0 ≤ t ∧ t < 4 from h1), if_neg (show ¬ (v (11 + p.toNat) = -1 ∧ pl (vc v) (fS v) k = -1) from h2)]
      · unfold sPut
        rw [if_pos h1, if_neg h2]
  · refine no (-2) (Or.inl rfl) ?_ ?_
    · unfold cPut
      rw [if_neg (show ¬ ((0 ≤ p ∧ p < fS v) ∧ (0 ≤ k ∧ k < v 0) ∧ 0 ≤ t ∧ t < 4) from h1)]
    · unfold sPut
      rw [if_neg h1]
end MK2
