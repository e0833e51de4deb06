/-! EdgeJoinModel: the search -/
theorem b2c_r (P : Prop) : 0 ≤ b2c P ∧ b2c P ≤ 1 := by
  unfold b2c
  split <;> decide
theorem b2c_00 {P : Prop} (h : b2c P = 0) : ¬ P := fun z => by
  rw [b2c_1 z] at h
  exact absurd h (by decide)
theorem b2c_11 {P : Prop} (h : ¬ b2c P = 0) : P := Classical.byContradiction (fun z => h (b2c_0 z))
section MF
variable {L d : Nat} {I : zI} {v : Nat → Int} {hs : Nat → Nat → Int} {hn : Nat} {ct tx : Nat → Int} {tl : Nat}
theorem m_lev {wn gn p : Nat} {tu fr cost : Int} {R : Int × (Nat → Int)} {rw1 : Nat → Int} {child : Nat → Int → Int × (Nat → Int) → Int × (Nat → Int)} (hA : AL I v) (ho : OKv v) (hw : 1 ≤ wn ∧ wn ≤ 8) (hg : 1 ≤ gn ∧ gn ≤ 8) (hn1 : wn * gn = fN v) (htu : tu = 0 ∨ tu = 1) (hfr : fr = 0 ∨ fr = 1) (hp : p < fN v) (hcr : 0 ≤ cost ∧ cost ≤ 48 * p) (hrw : ∀ j, j < p → 0 ≤ rw1 j ∧ rw1 j < 4 * (fN v : Int))
    (enter : ∀ (x : Nat) (K : zI) (B : Int × (Nat → Int)) (o9 : Option zV), x < 4 * fN v → (∀ j, j < p → K 144 j = rw1 j) → K 144 p = (x : Int) → FrJ I K → BJ (fN v) K B → cost + adC (fC v) (rowc rw1 p) wn (fN v) p x < B.1 → (∀ (K' : zI) (o7 o8 o9 : Option zV), (∀ j, j < p → K' 144 j = rw1 j) → K' 144 p = (x : Int) → (∀ j, j ≤ p → K' 146 j = K 146 j) → FrJ I K' → BJ (fN v) K' (child x (cost + adC (fC v) (rowc rw1 p) wn (fN v) p x) B) → Go L (d + 5) k_X8_findsJoin 29 [some (vR 137), some (vI wn), some (vI gn), some (vI tu), some (vI fr), some (vI ((wn * gn : Nat) : Int)), some (vI p), o7, o8, o9] [] K' (fun r J => r = some (vI (b2i (R.1 < 1000))) ∧ BJ (fN v) J R ∧ FrJ I J)) → Go L (d + 5) k_X8_findsJoin 131 [some (vR 137), some (vI wn), some (vI gn), some (vI tu), some (vI fr), some (vI ((wn * gn : Nat) : Int)), some (vI p), some (vI x), some (vI (cost + adC (fC v) (rowc rw1 p) wn (fN v) p x)), o9] [] K (fun r J => r = some (vI (b2i (R.1 < 1000))) ∧ BJ (fN v) J R ∧ FrJ I J)) :
    ∀ (m x : Nat) (K : zI) (B : Int × (Nat → Int)) (o7 o8 o9 : Option zV), x + m = 4 * fN v → (∀ j, j < p → K 144 j = rw1 j) → K 144 p = (x : Int) - 1 → K 146 p = cost → FrJ I K → BJ (fN v) K B → (∀ (K' : zI) (o7 o8 o9 : Option zV), (∀ j, j < p → K' 144 j = rw1 j) → (∀ j, j ≤ p → K' 146 j = K 146 j) → FrJ I K' → BJ (fN v) K' (fsV (okS (fC v) (fN v) wn tu fr rw1 p) (fun x => adC (fC v) (rowc rw1 p) wn (fN v) p x) cost child m x B) → Go L (d + 5) k_X8_findsJoin 29 [some (vR 137), some (vI wn), some (vI gn), some (vI tu), some (vI fr), some (vI ((wn * gn : Nat) : Int)), some (vI ((p : Int) + -1)), o7, o8, o9] [] K' (fun r J => r = some (vI (b2i (R.1 < 1000))) ∧ BJ (fN v) J R ∧ FrJ I J)) → Go L (d + 5) k_X8_findsJoin 29 [some (vR 137), some (vI wn), some (vI gn), some (vI tu), some (vI fr), some (vI ((wn * gn : Nat) : Int)), some (vI p), o7, o8, o9] [] K (fun r J => r = some (vI (b2i (R.1 < 1000))) ∧ BJ (fN v) J R ∧ FrJ I J) := by
  have hf := fN_le ho
  intro m
  induction m with
  | zero =>
    intro x K B o7 o8 o9 hx hr hpx hc hF hB cont
    refine g_l 31 rfl rfl ?_
    refine g_if_lt rfl (by omega) (fun g => ?_) (fun g => ?_)
    · exact absurd g (by omega)
    · refine g_l 35 rfl rfl ?_
      refine g_fr rfl rfl ⟨⟨by decide, by omega, by decide⟩, by decide⟩ rfl ?_
      refine g_l 40 rfl rfl ?_
      refine g_p 41 rfl rfl ?_
      refine g_ia p rfl rfl rfl (by omega) ?_
      rw [hpx]
      refine g_p 43 rfl rfl ?_
      refine g_p 44 rfl rfl ?_
      rw [show (x : Int) - 1 + 1 = (x : Int) by omega]
      refine g_ias p rfl rfl (by omega) rfl (by omega) ?_
      refine g_l 46 rfl rfl ?_
      refine g_fr rfl rfl ⟨⟨by decide, by omega, by decide⟩, by decide⟩ rfl ?_
      refine g_l 51 rfl rfl ?_
      refine g_ia p rfl rfl rfl (by omega) ?_
      rw [zup2_at]
      refine g_l 54 rfl rfl ?_
      refine g_l 56 rfl rfl ?_
      refine g_p 57 rfl rfl ?_
      refine g_l 59 rfl rfl ?_
      refine g_p 60 rfl rfl ?_
      refine g_ic_ne rfl (by omega) (by omega) (fun g2 => ?_) (fun g2 => ?_)
      · exact absurd (show (x : Int) = 4 * ((wn * gn : Nat) : Int) by omega) g2
      · refine g_l 66 rfl rfl ?_
        refine g_goto rfl ?_
        refine g_goto rfl ?_
        exact cont _ _ _ _ (fun j hj => by rw [zup2_an (by omega)]; exact hr j hj) (fun j hj => by rw [zup2_ne (by omega)]) (hF.up (Or.inl rfl)) ⟨by rw [zup2_ne (by omega)]; exact hB.1, fun j hj => by rw [zup2_ne (by omega)]; exact hB.2.1 j hj, hB.2.2⟩
  | succ m ih =>
    intro x K B o7 o8 o9 hx hr hpx hc hF hB cont
    have ex : (x : Int) / 4 = ((x / 4 : Nat) : Int) := by omega
    have hadd := adC_rng (fC v) (rowc rw1 p) wn (fN v) p x
    refine g_l 31 rfl rfl ?_
    refine g_if_lt rfl (by omega) (fun g => ?_) (fun g => ?_)
    · exact absurd g (by omega)
    · refine g_l 35 rfl rfl ?_
      refine g_fr rfl rfl ⟨⟨by decide, by omega, by decide⟩, by decide⟩ rfl ?_
      refine g_l 40 rfl rfl ?_
      refine g_p 41 rfl rfl ?_
      refine g_ia p rfl rfl rfl (by omega) ?_
      rw [hpx]
      refine g_p 43 rfl rfl ?_
      refine g_p 44 rfl rfl ?_
      rw [show (x : Int) - 1 + 1 = (x : Int) by omega]
      refine g_ias p rfl rfl (by omega) rfl (by omega) ?_
      have r1 : ∀ j, j < p → zup2 K 144 p (x : Int) 144 j = rw1 j := fun j hj => by rw [zup2_an (by omega)]; exact hr j hj
      have r2 : zup2 K 144 p (x : Int) 144 p = (x : Int) := zup2_at
      have r3 : zup2 K 144 p (x : Int) 146 = K 146 := zup2_ne (by omega)
      have rF : FrJ I (zup2 K 144 p (x : Int)) := hF.up (Or.inl rfl)
      have rB : BJ (fN v) (zup2 K 144 p (x : Int)) B := ⟨by rw [zup2_ne (by omega)]; exact hB.1, fun j hj => by rw [zup2_ne (by omega)]; exact hB.2.1 j hj, hB.2.2⟩
      generalize zup2 K 144 p (x : Int) = K1 at r1 r2 r3 rF rB ⊢
      have hc1 : K1 146 p = cost := by rw [r3]; exact hc
      have skip : ∀ o7 o8 o9, ¬ (okS (fC v) (fN v) wn tu fr rw1 p x ∧ cost + adC (fC v) (rowc rw1 p) wn (fN v) p x < B.1) → Go L (d + 5) k_X8_findsJoin 217 [some (vR 137), some (vI wn), some (vI gn), some (vI tu), some (vI fr), some (vI ((wn * gn : Nat) : Int)), some (vI p), o7, o8, o9] [] K1 (fun r J => r = some (vI (b2i (R.1 < 1000))) ∧ BJ (fN v) J R ∧ FrJ I J) := fun o7 o8 o9 hno => by
        have e : fsV (okS (fC v) (fN v) wn tu fr rw1 p) (fun x => adC (fC v) (rowc rw1 p) wn (fN v) p x) cost child (m + 1) x B = fsV (okS (fC v) (fN v) wn tu fr rw1 p) (fun x => adC (fC v) (rowc rw1 p) wn (fN v) p x) cost child m (x + 1) B := by rw [fsV, if_neg hno]
        refine g_goto rfl ?_
        refine ih (x + 1) K1 B _ _ _ (by omega) r1 (by rw [r2]; omega) hc1 rF rB (fun K' o7 o8 o9 k1 k2 k3 k4 => cont K' o7 o8 o9 k1 (fun j hj => by rw [k2 j hj, r3]) k3 (by rw [e]; exact k4))
      have at112 : ∀ o8 o9, okS (fC v) (fN v) wn tu fr rw1 p x → Go L (d + 5) k_X8_findsJoin 112 [some (vR 137), some (vI wn), some (vI gn), some (vI tu), some (vI fr), some (vI ((wn * gn : Nat) : Int)), some (vI p), some (vI x), o8, o9] [] K1 (fun r J => r = some (vI (b2i (R.1 < 1000))) ∧ BJ (fN v) J R ∧ FrJ I J) := fun o8 o9 hok => by
        refine g_l 113 rfl rfl ?_
        refine g_fr rfl rfl ⟨⟨by decide, by omega, by decide⟩, by decide⟩ rfl ?_
        refine g_l 118 rfl rfl ?_
        refine g_ia p rfl rfl rfl (by omega) ?_
        rw [hc1]
        refine g_l 120 rfl rfl ?_
        refine g_l 122 rfl rfl ?_
        refine g_l 124 rfl rfl ?_
        refine g_l 125 rfl rfl ?_
        refine g_callE rfl (m_added (rF.al hA) ho hw hg hn1 hp (by omega) (fun j hj => ⟨r1 j hj, hrw j hj⟩)) ?_ (hr := rcvM rfl)
        by_cases hlt : cost + adC (fC v) (rowc rw1 p) wn (fN v) p x < B.1
        · refine g_p 129 rfl rfl ?_
          refine g_l 131 rfl rfl ?_
          have e : fsV (okS (fC v) (fN v) wn tu fr rw1 p) (fun x => adC (fC v) (rowc rw1 p) wn (fN v) p x) cost child (m + 1) x B = fsV (okS (fC v) (fN v) wn tu fr rw1 p) (fun x => adC (fC v) (rowc rw1 p) wn (fN v) p x) cost child m (x + 1) (child x (cost + adC (fC v) (rowc rw1 p) wn (fN v) p x) B) := by rw [fsV, if_pos ⟨hok, hlt⟩]
          refine enter x K1 B _ (by omega) r1 r2 rF rB hlt (fun K2 o7 o8 o9 k1 k2 k3 k4 k5 => ?_)
          refine ih (x + 1) K2 _ _ _ _ (by omega) k1 (by rw [k2]; omega) (by rw [k3 p (Nat.le_refl _)]; exact hc1) k4 k5 (fun K' o7 o8 o9 j1 j2 j3 j4 => cont K' o7 o8 o9 j1 (fun j hj => by rw [j2 j hj, k3 j hj, r3]) j3 (by rw [e]; exact j4))
        · refine g_p 129 rfl rfl ?_
          refine g_l 131 rfl rfl ?_
          refine g_l 133 rfl rfl ?_
          refine g_l 134 rfl rfl ?_
          refine g_fi rfl rfl ⟨⟨by decide, by omega, by decide⟩, by decide⟩ ?_
          rw [rB.1]
          have hb2 := rB.2.2
          refine g_ic_ge rfl (by omega) (by omega) (fun g8 => ?_) (fun g8 => ?_)
          · refine g_l 190 rfl rfl ?_
            refine g_l 191 rfl rfl ?_
            refine g_fi rfl rfl ⟨⟨by decide, by omega, by decide⟩, by decide⟩ ?_
            rw [rB.1]
            refine g_ic_ge rfl (by omega) (by omega) (fun g9 => ?_) (fun g9 => ?_)
            · exact skip _ _ _ (fun z => hlt z.2)
            · exact absurd g8 g9
          · exact absurd (by omega) g8
      have at81 : ∀ o8 o9, (x % 4 = 0 ∨ tu = 1) → Go L (d + 5) k_X8_findsJoin 81 [some (vR 137), some (vI wn), some (vI gn), some (vI tu), some (vI fr), some (vI ((wn * gn : Nat) : Int)), some (vI p), some (vI x), o8, o9] [] K1 (fun r J => r = some (vI (b2i (R.1 < 1000))) ∧ BJ (fN v) J R ∧ FrJ I J) := fun o8 o9 h0 => by
        have hbu := b2c_r (∃ j, j < p ∧ rw1 j / 4 = ((x / 4 : Nat) : Int))
        have hbf := b2c_r (ffF (fC v) wn (fN v) p x 4 0)
        refine g_l 82 rfl rfl ?_
        refine g_l 84 rfl rfl ?_
        refine g_l 86 rfl rfl ?_
        refine g_p 87 rfl rfl ?_
        refine g_div 88 rfl (by omega) (by omega) ?_
        rw [ex]
        refine g_callE rfl (m_isUsed (rw1 := rw1) (by omega) (by omega) (fun j hj => ⟨r1 j hj, (hrw j hj).1, by have := (hrw j hj).2; omega⟩)) ?_ (hr := rcvM rfl)
        refine g_if_ne rfl (by omega) (fun g5 => ?_) (fun g5 => ?_)
        · refine skip _ _ _ (fun z => ?_)
          obtain ⟨j, j1, j2⟩ := b2c_11 g5
          exact z.1.2.1 j j1 j2
        · have hnu : ∀ j, j < p → rw1 j / 4 ≠ ((x / 4 : Nat) : Int) := fun j hj he => b2c_00 (Decidable.not_not.mp g5) ⟨j, hj, he⟩
          refine g_l 96 rfl rfl ?_
          refine g_if_eq rfl (by omega) (fun g6 => ?_) (fun g6 => ?_)
          · exact at112 _ _ ⟨h0, hnu, fun z => absurd z (by omega)⟩
          · refine g_l 100 rfl rfl ?_
            refine g_l 102 rfl rfl ?_
            refine g_l 104 rfl rfl ?_
            refine g_l 105 rfl rfl ?_
            refine g_l 106 rfl rfl ?_
            refine g_callE rfl (m_isFramed (rF.al hA) ho hw hg hn1 hp (by omega)) ?_ (hr := rcvM rfl)
            refine g_if_eq rfl (by omega) (fun g7 => ?_) (fun g7 => ?_)
            · exact skip _ _ _ (fun z => b2c_00 g7 (z.1.2.2 (by omega)))
            · exact at112 _ _ ⟨h0, hnu, fun _ => b2c_11 g7⟩
      refine g_l 46 rfl rfl ?_
      refine g_fr rfl rfl ⟨⟨by decide, by omega, by decide⟩, by decide⟩ rfl ?_
      refine g_l 51 rfl rfl ?_
      refine g_ia p rfl rfl rfl (by omega) ?_
      rw [r2]
      refine g_l 54 rfl rfl ?_
      refine g_l 56 rfl rfl ?_
      refine g_p 57 rfl rfl ?_
      refine g_l 59 rfl rfl ?_
      refine g_p 60 rfl rfl ?_
      refine g_ic_ne rfl (by omega) (by omega) (fun g2 => ?_) (fun g2 => ?_)
      · refine g_l 71 rfl rfl ?_
        refine g_p 72 rfl rfl ?_
        refine g_rem 73 rfl (by omega) (by omega) ?_
        refine g_if_eq rfl (by omega) (fun g3 => ?_) (fun g3 => ?_)
        · exact at81 _ _ (Or.inl (by omega))
        · refine g_l 77 rfl rfl ?_
          refine g_p 78 rfl rfl ?_
          refine g_ic_ne rfl (by omega) (by omega) (fun g4 => ?_) (fun g4 => ?_)
          · exact skip _ _ _ (fun z => by
              rcases z.1.1 with w | w
              · exact g3 (by omega)
              · exact g4 w)
          · exact at81 _ _ (Or.inr (Decidable.not_not.mp g4))
      · exact absurd (Decidable.not_not.mp g2) (by omega)
theorem m_level {wn gn : Nat} {tu fr : Int} {R : Int × (Nat → Int)} (hA : AL I v) (ho : OKv v) (hw : 1 ≤ wn ∧ wn ≤ 8) (hg : 1 ≤ gn ∧ gn ≤ 8) (hn1 : wn * gn = fN v) (htu : tu = 0 ∨ tu = 1) (hfr : fr = 0 ∨ fr = 1) : ∀ (r p : Nat), p + r + 1 = fN v → ∀ (cost : Int) (rw1 : Nat → Int), (0 ≤ cost ∧ cost ≤ 48 * p) → (∀ j, j < p → 0 ≤ rw1 j ∧ rw1 j < 4 * (fN v : Int)) →
    ∀ (m x : Nat) (K : zI) (B : Int × (Nat → Int)) (o7 o8 o9 : Option zV), x + m = 4 * fN v → (∀ j, j < p → K 144 j = rw1 j) → K 144 p = (x : Int) - 1 → K 146 p = cost → FrJ I K → BJ (fN v) K B → (∀ (K' : zI) (o7 o8 o9 : Option zV), (∀ j, j < p → K' 144 j = rw1 j) → (∀ j, j ≤ p → K' 146 j = K 146 j) → FrJ I K' → BJ (fN v) K' (fsV (okS (fC v) (fN v) wn tu fr rw1 p) (fun x => adC (fC v) (rowc rw1 p) wn (fN v) p x) cost (fun x c B => fs (fC v) (fN v) wn tu fr r (p + 1) (zup rw1 p x) c B) m x B) → Go L (d + 5) k_X8_findsJoin 29 [some (vR 137), some (vI wn), some (vI gn), some (vI tu), some (vI fr), some (vI ((wn * gn : Nat) : Int)), some (vI ((p : Int) + -1)), o7, o8, o9] [] K' (fun r J => r = some (vI (b2i (R.1 < 1000))) ∧ BJ (fN v) J R ∧ FrJ I J)) → Go L (d + 5) k_X8_findsJoin 29 [some (vR 137), some (vI wn), some (vI gn), some (vI tu), some (vI fr), some (vI ((wn * gn : Nat) : Int)), some (vI p), o7, o8, o9] [] K (fun r J => r = some (vI (b2i (R.1 < 1000))) ∧ BJ (fN v) J R ∧ FrJ I J) := by
  have hf := fN_le ho
  intro r
  induction r with
  | zero =>
    intro p hpr cost rw1 hcr hrw
    refine m_lev hA ho hw hg hn1 htu hfr (by omega) hcr hrw (fun x K B o9 hx hr hpx hF hB hlt cont => ?_)
    have hadd := adC_rng (fC v) (rowc rw1 p) wn (fN v) p x
    have hB2 := hB.2.2
    generalize hc : cost + adC (fC v) (rowc rw1 p) wn (fN v) p x = c at hlt cont ⊢
    refine g_l 133 rfl rfl ?_
    refine g_l 134 rfl rfl ?_
    refine g_fi rfl rfl ⟨⟨by decide, by omega, by decide⟩, by decide⟩ ?_
    rw [hB.1]
    refine g_ic_ge rfl (by omega) (by omega) (fun g => ?_) (fun g => ?_)
    · exact absurd g (by omega)
    · refine g_l 142 rfl rfl ?_
      refine g_l 144 rfl rfl ?_
      refine g_p 145 rfl rfl ?_
      refine g_p 146 rfl rfl ?_
      refine g_ic_ne rfl (by omega) (by omega) (fun g2 => ?_) (fun g2 => ?_)
      · exact absurd (show (p : Int) = ((wn * gn : Nat) : Int) - 1 by omega) g2
      · refine g_l 150 rfl rfl ?_
        refine g_l 152 rfl rfl ?_
        refine g_wi rfl rfl ⟨⟨by decide, by omega, by decide⟩, by decide⟩ ?_
        refine g_p 156 rfl rfl ?_
        refine g_l 158 rfl rfl ?_
        have copy : ∀ (m k : Nat) (K3 : zI), k + m = fN v → (∀ j, j < k → K3 145 j = zup rw1 p x j) → (∀ q, q ≠ 145 → K3 q = zup2 K 137 9 c q) → Go L (d + 5) k_X8_findsJoin 158 [some (vR 137), some (vI wn), some (vI gn), some (vI tu), some (vI fr), some (vI ((wn * gn : Nat) : Int)), some (vI p), some (vI x), some (vI c), some (vI k)] [] K3 (fun r J => r = some (vI (b2i (R.1 < 1000))) ∧ BJ (fN v) J R ∧ FrJ I J) := by
          intro m
          induction m with
          | zero =>
            intro k K3 hk k1 k2
            refine g_l 160 rfl rfl ?_
            refine g_l 162 rfl rfl ?_
            refine g_ic_ge rfl (by omega) (by omega) (fun g3 => ?_) (fun g3 => ?_)
            · refine g_goto rfl ?_
              refine g_goto rfl ?_
              refine cont K3 _ _ _ (fun j hj => by rw [k2 144 (by omega), zup2_ne (by omega)]; exact hr j hj) (by rw [k2 144 (by omega), zup2_ne (by omega)]; exact hpx) (fun j hj => by rw [k2 146 (by omega), zup2_ne (by omega)]) ⟨fun q q1 q2 q3 q4 => ?_, fun j hj => ?_⟩ ⟨?_, fun j hj => k1 j (by omega), show 0 ≤ c by omega, show c ≤ 1000 by omega⟩
              · rw [k2 q q3, zup2_ne q1]
                exact hF.1 q q1 q2 q3 q4
              · rw [k2 137 (by omega), zup2_an hj]
                exact hF.2 j hj
              · rw [k2 137 (by omega), zup2_at]
                rfl
            · exact absurd g3 (by omega)
          | succ m ih =>
            intro k K3 hk k1 k2
            have hrow : K3 144 k = zup rw1 p x k := by
              rw [k2 144 (by omega), zup2_ne (by omega)]
              by_cases hkp : k = p
              · rw [hkp, zup_s]
                exact hpx
              · rw [zup_n hkp]
                exact hr k (by omega)
            refine g_l 160 rfl rfl ?_
            refine g_l 162 rfl rfl ?_
            refine g_ic_ge rfl (by omega) (by omega) (fun g3 => ?_) (fun g3 => ?_)
            · exact absurd g3 (by omega)
            · refine g_l 166 rfl rfl ?_
              refine g_fr rfl rfl ⟨⟨by decide, by omega, by decide⟩, by decide⟩ rfl ?_
              refine g_l 171 rfl rfl ?_
              refine g_l 172 rfl rfl ?_
              refine g_fr rfl rfl ⟨⟨by decide, by omega, by decide⟩, by decide⟩ rfl ?_
              refine g_l 177 rfl rfl ?_
              refine g_ia k rfl rfl rfl (by omega) ?_
              rw [hrow]
              refine g_ias k rfl rfl (by omega) rfl (by omega) ?_
              refine g_l 182 rfl rfl ?_
              refine g_goto rfl ?_
              refine ih (k + 1) _ (by omega) (fun j hj => ?_) (fun q hq => by rw [zup2_ne hq]; exact k2 q hq)
              by_cases hjk : j = k
              · rw [hjk, zup2_at]
              · rw [zup2_an hjk]
                exact k1 j (by omega)
        exact copy (fN v) 0 _ (by omega) (fun j hj => absurd hj (by omega)) (fun _ _ => rfl)
  | succ r ihr =>
    intro p hpr cost rw1 hcr hrw
    refine m_lev hA ho hw hg hn1 htu hfr (by omega) hcr hrw (fun x K B o9 hx hr hpx hF hB hlt cont => ?_)
    have hadd := adC_rng (fC v) (rowc rw1 p) wn (fN v) p x
    have hB2 := hB.2.2
    generalize hc : cost + adC (fC v) (rowc rw1 p) wn (fN v) p x = c at hlt cont ⊢
    refine g_l 133 rfl rfl ?_
    refine g_l 134 rfl rfl ?_
    refine g_fi rfl rfl ⟨⟨by decide, by omega, by decide⟩, by decide⟩ ?_
    rw [hB.1]
    refine g_ic_ge rfl (by omega) (by omega) (fun g => ?_) (fun g => ?_)
    · exact absurd g (by omega)
    · refine g_l 142 rfl rfl ?_
      refine g_l 144 rfl rfl ?_
      refine g_p 145 rfl rfl ?_
      refine g_p 146 rfl rfl ?_
      refine g_ic_ne rfl (by omega) (by omega) (fun g2 => ?_) (fun g2 => ?_)
      · refine g_l 190 rfl rfl ?_
        refine g_l 191 rfl rfl ?_
        refine g_fi rfl rfl ⟨⟨by decide, by omega, by decide⟩, by decide⟩ ?_
        rw [hB.1]
        refine g_ic_ge rfl (by omega) (by omega) (fun g3 => ?_) (fun g3 => ?_)
        · exact absurd g3 (by omega)
        · refine g_l 200 rfl rfl ?_
          refine g_l 201 rfl rfl ?_
          refine g_fr rfl rfl ⟨⟨by decide, by omega, by decide⟩, by decide⟩ rfl ?_
          refine g_l 206 rfl rfl ?_
          refine g_l 208 rfl rfl ?_
          refine g_ias (p + 1) rfl rfl (by omega) rfl (by omega) ?_
          refine g_l 210 rfl rfl ?_
          refine g_fr rfl rfl ⟨⟨by decide, by omega, by decide⟩, by decide⟩ rfl ?_
          refine g_l 215 rfl rfl ?_
          refine g_p 216 rfl rfl ?_
          refine g_ias (p + 1) rfl rfl (by omega) rfl (by omega) ?_
          refine g_goto rfl ?_
          refine ihr (p + 1) (by omega) c (zup rw1 p x) ⟨by omega, by omega⟩ (fun j hj => ?_) (4 * fN v) 0 _ B _ _ _ (by omega) (fun j hj => ?_) ?_ ?_ ((hF.up (Or.inr (Or.inr (Or.inl rfl)))).up (Or.inl rfl)) ⟨?_, fun j hj => ?_, hB.2.2⟩ (fun K' o7 o8 o9 k1 k2 k3 k4 => ?_)
          · by_cases hjp : j = p
            · rw [hjp, zup_s]
              omega
            · rw [zup_n hjp]
              exact hrw j (by omega)
          · rw [zup2_an (by omega), zup2_ne (by omega)]
            by_cases hjp : j = p
            · rw [hjp, zup_s]
              exact hpx
            · rw [zup_n hjp]
              exact hr j (by omega)
          · rw [zup2_at]
            rfl
          · rw [zup2_ne (by omega), zup2_at]
          · rw [zup2_ne (by omega), zup2_ne (by omega)]
            exact hB.1
          · rw [zup2_ne (by omega), zup2_ne (by omega)]
            exact hB.2.1 j hj
          · rw [show ((p + 1 : Nat) : Int) + -1 = (p : Int) by omega]
            refine cont K' o7 o8 o9 (fun j hj => by rw [k1 j (by omega), zup_n (by omega)]) (by rw [k1 p (by omega), zup_s]) (fun j hj => by rw [k2 j (by omega), zup2_ne (by omega), zup2_an (by omega)]) k3 k4
      · exact absurd (Decidable.not_not.mp g2) (by omega)
theorem m_findsJoin {wn gn : Nat} {tu fr : Int} {R : Int × (Nat → Int)} (hA : AL I v) (ho : OKv v) (hw : 1 ≤ wn ∧ wn ≤ 8) (hg : 1 ≤ gn ∧ gn ≤ 8) (hn1 : wn * gn = fN v) (htu : tu = 0 ∨ tu = 1) (hfr : fr = 0 ∨ fr = 1) (hR : R = fs (fC v) (fN v) wn tu fr (fN v) 0 (fun _ => 0) 0 (1000, I 145)) : Ct L (d + 5) k_X8_findsJoin [vR 137, vI wn, vI gn, vI tu, vI fr] I (fun r J => r = some (vI (b2i (R.1 < 1000))) ∧ BJ (fN v) J R ∧ FrJ I J) := by
  have hf := fN_le ho
  have en : (wn : Int) * (gn : Int) = ((wn * gn : Nat) : Int) := (Int.natCast_mul _ _).symm
  have h1 : 1 ≤ wn * gn := Nat.mul_pos hw.1 hg.1
  obtain ⟨r, hr⟩ : ∃ r, fN v = r + 1 := ⟨fN v - 1, by omega⟩
  have e := fs_s (f := fC v) (n := fN v) (w := wn) (tu := tu) (fr := fr) (r := r) (p := 0) (row := fun _ => 0) (cost := 0) (B := (1000, I 145)) (fN v) hr
  rw [← hR] at e
  show Go L (d + 5) k_X8_findsJoin 0 [some (vR 137), some (vI wn), some (vI gn), some (vI tu), some (vI fr), none, none, none, none, none] [] I _
  refine g_l 1 rfl rfl ?_
  refine g_l 2 rfl rfl ?_
  refine g_p 3 rfl rfl ?_
  refine g_l 5 rfl rfl ?_
  refine g_p 6 rfl rfl ?_
  refine g_l 8 rfl rfl ?_
  refine g_l 9 rfl rfl ?_
  refine g_p 12 rfl rfl ?_
  refine g_wi rfl rfl ⟨⟨by decide, by omega, by decide⟩, by decide⟩ ?_
  refine g_l 16 rfl rfl ?_
  refine g_fr rfl rfl ⟨⟨by decide, by omega, by decide⟩, by decide⟩ rfl ?_
  refine g_p 20 rfl rfl ?_
  refine g_p 21 rfl rfl ?_
  rw [en]
  refine g_ias 0 rfl rfl (by omega) rfl (by omega) ?_
  refine g_l 23 rfl rfl ?_
  refine g_fr rfl rfl ⟨⟨by decide, by omega, by decide⟩, by decide⟩ rfl ?_
  refine g_p 27 rfl rfl ?_
  refine g_p 28 rfl rfl ?_
  refine g_ias 0 rfl rfl (by omega) rfl (by omega) ?_
  refine m_level (R := R) hA ho hw hg hn1 htu hfr r 0 (by omega) 0 (fun _ => 0) ⟨by decide, by decide⟩ (fun j hj => absurd hj (by omega)) (4 * fN v) 0 _ (1000, I 145) _ _ _ (by omega) (fun j hj => absurd hj (by omega)) (by rw [zup2_at]; rfl) (by rw [zup2_ne (by omega), zup2_at]) (((FrJ.rf.up (Or.inr (Or.inr (Or.inr ⟨rfl, rfl⟩)))).up (Or.inr (Or.inr (Or.inl rfl)))).up (Or.inl rfl)) ⟨?_, fun j hj => ?_, show (0 : Int) ≤ 1000 by decide, show (1000 : Int) ≤ 1000 by decide⟩ (fun K' o7 o8 o9 k1 k2 k3 k4 => ?_)
  · rw [zup2_ne (by omega), zup2_ne (by omega), zup2_at]
  · rw [zup2_ne (by omega), zup2_ne (by omega), zup2_ne (by omega)]
  · rw [← e] at k4
    have k42 := k4.2.2
    refine g_l 31 rfl rfl ?_
    refine g_if_lt rfl (by omega) (fun g => ?_) (fun g => ?_)
    · refine g_l 221 rfl rfl ?_
      refine g_fi rfl rfl ⟨⟨by decide, by omega, by decide⟩, by decide⟩ ?_
      refine g_p 227 rfl rfl ?_
      rw [k4.1]
      refine g_ic_ge rfl (by omega) (by omega) (fun g2 => ?_) (fun g2 => ?_)
      · refine g_p 235 rfl rfl ?_
        exact g_retb rfl rfl (Or.inl rfl) ⟨by rw [← b2i_f (by omega)], k4, k3⟩
      · refine g_p 231 rfl rfl ?_
        refine g_goto rfl ?_
        exact g_retb rfl rfl (Or.inr rfl) ⟨by rw [← b2i_t (by omega)], k4, k3⟩
    · exact absurd (show ((0 : Nat) : Int) + -1 < 0 by decide) (by omega)
theorem m_joins {w g tu fr p : Int} (h : MI I v hs hn ct tx tl) (hw : rng w) (hg : rng g) (ht : rng tu) (hfr : rng fr) (hp : rng p) : Ct L (d + 6) k_X8_joins [vR 137, vI w, vI g, vI tu, vI fr, vI p] I (PN I (qJoins v w g tu fr p) v hs hn ct tx tl) := by
  have hf := fN_le h.2.1
  have b1 := b2i_r (1 ≤ w ∧ w ≤ 8)
  have b2 := b2i_r (1 ≤ g ∧ g ≤ 8)
  have b3 := b2i_r (0 ≤ tu ∧ tu ≤ 1)
  have b4 := b2i_r (0 ≤ fr ∧ fr ≤ 1)
  have b5 := b2i_r (-1 ≤ p ∧ p ≤ w * g - 1)
  have bad : ¬ jnP w g tu fr p → Go L (d + 6) k_X8_joins 63 [some (vR 137), some (vI w), some (vI g), some (vI tu), some (vI fr), some (vI p)] [] I (PN I (qJoins v w g tu fr p) v hs hn ct tx tl) := fun hno => by
    refine g_l 64 rfl rfl ?_
    refine g_p 66 rfl rfl ?_
    unfold qJoins
    rw [if_neg hno]
    refine g_call rfl (m_refuse (Or.inl rfl) h) (fun r J hJ => ?_) (hr := rcvM rfl)
    obtain ⟨rfl, hJ⟩ := hJ
    exact g_ret rfl rfl ⟨rfl, hJ⟩
  show Go L (d + 6) k_X8_joins 0 [some (vR 137), some (vI w), some (vI g), some (vI tu), some (vI fr), some (vI p)] [] I _
  refine g_l 1 rfl rfl ?_
  refine g_i2l 2 rfl (by omega) ?_
  refine g_lc1 3 rfl ?_
  refine g_ld2 6 rfl ?_
  refine g_callE rfl (m_in (by omega) (by decide) (by decide)) ?_
  refine g_if_eq rfl (by omega) (fun g1 => ?_) (fun g1 => ?_)
  · exact bad (fun z => b2i_0 g1 z.1)
  · have g1 := b2i_1 g1
    refine g_l 13 rfl rfl ?_
    refine g_i2l 14 rfl (by omega) ?_
    refine g_lc1 15 rfl ?_
    refine g_ld2 18 rfl ?_
    refine g_callE rfl (m_in (by omega) (by decide) (by decide)) ?_
    refine g_if_eq rfl (by omega) (fun g2 => ?_) (fun g2 => ?_)
    · exact bad (fun z => b2i_0 g2 z.2.1)
    · have g2 := b2i_1 g2
      have e1 := Int.mul_le_mul g1.2 g2.2 (by omega) (by omega)
      have e2 := Int.mul_le_mul g1.1 g2.1 (by omega) (by omega)
      refine g_l 25 rfl rfl ?_
      refine g_i2l 26 rfl (by omega) ?_
      refine g_lc0 27 rfl ?_
      refine g_lc1 28 rfl ?_
      refine g_callE rfl (m_in (by omega) (by decide) (by decide)) ?_
      refine g_if_eq rfl (by omega) (fun g3 => ?_) (fun g3 => ?_)
      · exact bad (fun z => b2i_0 g3 (by have := z.2.2.1; omega))
      · have g3 := b2i_1 g3
        refine g_l 36 rfl rfl ?_
        refine g_i2l 37 rfl (by omega) ?_
        refine g_lc0 38 rfl ?_
        refine g_lc1 39 rfl ?_
        refine g_callE rfl (m_in (by omega) (by decide) (by decide)) ?_
        refine g_if_eq rfl (by omega) (fun g4 => ?_) (fun g4 => ?_)
        · exact bad (fun z => b2i_0 g4 (by have := z.2.2.2.1; omega))
        · have g4 := b2i_1 g4
          refine g_l 47 rfl rfl ?_
          refine g_i2l 48 rfl (by omega) ?_
          refine g_ld2 51 rfl ?_
          refine g_l 52 rfl rfl ?_
          refine g_l 53 rfl rfl ?_
          refine g_p 54 rfl rfl ?_
          refine g_p 55 rfl rfl ?_
          refine g_p 56 rfl rfl ?_
          refine g_i2l 57 rfl (by omega) ?_
          refine g_callE rfl (m_in (by omega) (by decide) (by omega)) ?_
          refine g_if_ne rfl (by omega) (fun g5 => ?_) (fun g5 => ?_)
          · have g5 := b2i_1 g5
            have hj : jnP w g tu fr p := ⟨g1, g2, by omega, by omega, by omega⟩
            unfold qJoins
            rw [if_pos hj]
            have nope : (w * g ≠ v 0 ∨ (tu = 1 ∧ 4 < v 0)) → Go L (d + 6) k_X8_joins 93 [some (vR 137), some (vI w), some (vI g), some (vI tu), some (vI fr), some (vI p)] [] I (PN I (if w * g ≠ v 0 ∨ (tu = 1 ∧ 4 < v 0) then (-3, -3) else (jnA v w tu fr p, 0)) v hs hn ct tx tl) := fun hno => by
              rw [if_pos hno]
              refine g_l 94 rfl rfl ?_
              refine g_p 96 rfl rfl ?_
              refine g_call rfl (m_refuse (Or.inr (Or.inl rfl)) h) (fun r J hJ => ?_) (hr := rcvM rfl)
              obtain ⟨rfl, hJ⟩ := hJ
              exact g_ret rfl rfl ⟨rfl, hJ⟩
            have good : ¬ (w * g ≠ v 0 ∨ (tu = 1 ∧ 4 < v 0)) → Go L (d + 6) k_X8_joins 100 [some (vR 137), some (vI w), some (vI g), some (vI tu), some (vI fr), some (vI p)] [] I (PN I (if w * g ≠ v 0 ∨ (tu = 1 ∧ 4 < v 0) then (-3, -3) else (jnA v w tu fr p, 0)) v hs hn ct tx tl) := fun hno => by
              rw [if_neg hno]
              have hwg : w * g = v 0 := Decidable.not_not.mp (fun z => hno (Or.inl z))
              obtain ⟨wn, hwn⟩ := Int.eq_ofNat_of_zero_le (show 0 ≤ w by omega)
              obtain ⟨gn, hgn⟩ := Int.eq_ofNat_of_zero_le (show 0 ≤ g by omega)
              subst hwn
              subst hgn
              have en : (wn : Int) * (gn : Int) = ((wn * gn : Nat) : Int) := (Int.natCast_mul _ _).symm
              generalize hR : fs (fC v) (fN v) wn tu fr (fN v) 0 (fun _ => 0) 0 (1000, I 145) = R
              have hrel : RB R (jnB v wn tu fr) := by
                rw [← hR]
                exact fs_rel (fN v) 0 _ 0 _ _ ⟨rfl, fun z => absurd z (by show ¬ (1000 : Int) < 1000; omega)⟩
              refine g_l 101 rfl rfl ?_
              refine g_l 102 rfl rfl ?_
              refine g_l 103 rfl rfl ?_
              refine g_l 104 rfl rfl ?_
              refine g_l 106 rfl rfl ?_
              refine g_call rfl (m_findsJoin (R := R) h.1 h.2.1 (by omega) (by omega) (by omega) (by omega) (by omega) hR.symm) (fun r J hJ => ?_) (hr := rcvM rfl)
              obtain ⟨rfl, jB, jF⟩ := hJ
              have jB2 := jB.2.2
              have bR := b2i_r (R.1 < 1000)
              unfold jnA
              rw [← hrel.1]
              refine g_if_ne rfl (by omega) (fun g8 => ?_) (fun g8 => ?_)
              · have g8 := b2i_1 g8
                rw [if_pos g8, ← hrel.2 g8]
                refine g_l 119 rfl rfl ?_
                refine g_p 120 rfl rfl ?_
                refine g_ic_ne rfl (by omega) (by omega) (fun g9 => ?_) (fun g9 => ?_)
                · rw [if_neg g9]
                  obtain ⟨pn, hpn⟩ := Int.eq_ofNat_of_zero_le (show 0 ≤ p by omega)
                  subst hpn
                  rw [Int.toNat_natCast]
                  refine g_l 131 rfl rfl ?_
                  refine g_fr rfl rfl ⟨⟨by decide, by omega, by decide⟩, by decide⟩ rfl ?_
                  refine g_l 136 rfl rfl ?_
                  refine g_ia pn rfl rfl rfl (by omega) ?_
                  rw [jB.2.1 pn (by omega)]
                  exact g_ret rfl rfl ⟨rfl, h.q jF.q, jF.q.m⟩
                · rw [if_pos (Decidable.not_not.mp g9)]
                  refine g_l 124 rfl rfl ?_
                  refine g_fi rfl rfl ⟨⟨by decide, by omega, by decide⟩, by decide⟩ ?_
                  rw [jB.1]
                  refine g_goto rfl ?_
                  exact g_ret rfl rfl ⟨rfl, h.q jF.q, jF.q.m⟩
              · rw [if_neg (b2i_0 (Decidable.not_not.mp g8))]
                refine g_p 114 rfl rfl ?_
                refine g_goto rfl ?_
                exact g_ret rfl rfl ⟨rfl, h.q jF.q, jF.q.m⟩
            refine g_l 71 rfl rfl ?_
            refine g_l 72 rfl rfl ?_
            refine g_p 73 rfl rfl ?_
            refine g_l 74 rfl rfl ?_
            refine g_callE rfl (m_many h.1) ?_ (hr := rcvM rfl)
            refine g_ic_ne rfl (by omega) (by omega) (fun g6 => ?_) (fun g6 => ?_)
            · exact nope (Or.inl g6)
            · have g6 := Decidable.not_not.mp g6
              refine g_l 81 rfl rfl ?_
              refine g_p 82 rfl rfl ?_
              refine g_ic_ne rfl (by omega) (by omega) (fun g7 => ?_) (fun g7 => ?_)
              · exact good (fun z => by
                  rcases z with z | z
                  · exact z g6
                  · exact g7 z.1)
              · refine g_l 86 rfl rfl ?_
                refine g_callE rfl (m_many h.1) ?_ (hr := rcvM rfl)
                refine g_p 90 rfl rfl ?_
                refine g_ic_le rfl (by omega) (by omega) (fun g8 => ?_) (fun g8 => ?_)
                · exact good (fun z => by
                    rcases z with z | z
                    · exact z g6
                    · omega)
                · exact nope (Or.inr ⟨Decidable.not_not.mp g7, by omega⟩)
          · refine bad (fun z => b2i_0 (Decidable.not_not.mp g5) ?_)
            have := z.2.2.2.2
            omega
end MF
