/-! EdgeJoin: costs, puts, next -/
theorem wcF_eq {f c c' : Nat → Int} {w n : Int} (hw : 1 ≤ w) (hwn : n % w = 0) (h8 : n ≤ 8) (h : ∀ j, j < 8 → c j = c' j) : ∀ m p : Nat, (p : Int) + m = n → wcF f c w n m p = wcF f c' w n m p
  | 0, _, _ => rfl
  | m + 1, p, hp => by
    have ih := wcF_eq (f := f) hw hwn h8 h m (p + 1) (by omega)
    have e : adC f c w n p (c p) = adC f c' w n p (c p) := adF_eq hw ⟨by omega, by omega⟩ hwn h8 h 4 0
    unfold wcF
    rw [ih, e, h p (by omega)]
theorem bsF_eq {c c' : Nat → Int} {w n p : Int} (hw : 1 ≤ w) (hp : 0 ≤ p ∧ p < n) (hwn : n % w = 0) (h8 : n ≤ 8) (h : ∀ j, j < 8 → c j = c' j) : ∀ m q, bsF c w n p m q ↔ bsF c' w n p m q
  | 0, _ => Iff.rfl
  | m + 1, q => by
    have hr := nb_rng (q := (q : Int)) hw hp hwn
    have ih := bsF_eq hw hp hwn h8 h m (q + 1)
    unfold bsF
    rw [ih]
    by_cases h1 : nb w n p q = -1
    · simp [h1]
    · rw [h (nb w n p q).toNat (by omega)]
abbrev frP (v : Nat → Int) (k : Int) : Prop := pl (vc v) (fS v) k = -1
def adA (v : Nat → Int) (p x : Int) : Int := adC (fC v) (vc v) (v 9) (fS v) p x
def fcF (v : Nat → Int) (p tu : Int) : Nat → Nat → Int → Int → Int × Int
  | 0, _, bi, b => (bi, b)
  | m + 1, c, bi, b => if ((c % 4 = 0 ∨ tu = 1) ∧ frP v ((c / 4 : Nat) : Int)) ∧ adA v p c < bi then fcF v p tu m (c + 1) (adA v p c) c else fcF v p tu m (c + 1) bi b
theorem fcF_skip {v : Nat → Int} {p tu : Int} : ∀ (j m c : Nat) (bi b : Int), (∀ i, i < j → ¬ ((c + i) % 4 = 0 ∨ tu = 1)) → fcF v p tu (m + j) c bi b = fcF v p tu m (c + j) bi b
  | 0, m, c, bi, b, _ => rfl
  | j + 1, m, c, bi, b, h => by
    have h1 := fcF_skip (v := v) (p := p) (tu := tu) j m (c + 1) bi b (fun i hi => by have := h (i + 1) (by omega); rwa [show c + (i + 1) = c + 1 + i by omega] at this)
    rw [show m + (j + 1) = (m + j) + 1 by omega, fcF, if_neg (fun z => h 0 (by omega) z.1.1), h1, show c + 1 + j = c + (j + 1) by omega]
theorem adA_rng (v : Nat → Int) (p x : Int) : 0 ≤ adA v p x ∧ adA v p x ≤ 48 := adC_rng _ _ _ _ _ _
theorem fcF_rng {v : Nat → Int} {p tu : Int} : ∀ (m c : Nat) (bi b : Int), (0 ≤ bi ∧ bi ≤ 1000) → (fcF v p tu m c bi b).2 = b ∧ (fcF v p tu m c bi b).1 = bi ∨ ((c : Int) ≤ (fcF v p tu m c bi b).2 ∧ (fcF v p tu m c bi b).2 < c + m ∧ frP v ((fcF v p tu m c bi b).2 / 4) ∧ (fcF v p tu m c bi b).1 = adA v p (fcF v p tu m c bi b).2)
  | 0, c, bi, b, _ => Or.inl ⟨rfl, rfl⟩
  | m + 1, c, bi, b, h => by
    have ha := adA_rng v p c
    unfold fcF
    split
    · rename_i hh
      rcases fcF_rng (v := v) (p := p) (tu := tu) m (c + 1) (adA v p c) c (by omega) with q | q
      · refine Or.inr ?_
        rw [q.1, q.2]
        refine ⟨by omega, by omega, ?_, rfl⟩
        have := hh.1.2
        rwa [Int.natCast_ediv] at this
      · exact Or.inr ⟨by omega, by omega, q.2.2⟩
    · rcases fcF_rng (v := v) (p := p) (tu := tu) m (c + 1) bi b h with q | q
      · exact Or.inl q
      · exact Or.inr ⟨by omega, by omega, q.2.2⟩
abbrev cgP (v : Nat → Int) (p : Nat) : Prop := v (11 + p) = -1 ∧ (bsF (vc v) (v 9) (fS v) p 4 0 ∨ cn (vc v) (fS v) = 0)
noncomputable def ctA (v : Nat → Int) (tu : Int) (p : Nat) : Int := @ite _ (cgP v p) (Classical.propDecidable _) (fcF v p tu (4 * fN v) 0 1000 (-1)).2 (-1)
noncomputable def icA (v : Nat → Int) (tu : Int) (p : Nat) : Int := if ctA v tu p = -1 then 1000 else adA v p (ctA v tu p)
noncomputable def nxF (v : Nat → Int) (tu : Int) : Nat → Nat → Int → Int → Int → Int × Int × Int
  | 0, _, bi, bp, bc => (bi, bp, bc)
  | m + 1, p, bi, bp, bc => if icA v tu p < bi then nxF v tu m (p + 1) (icA v tu p) p (ctA v tu p) else nxF v tu m (p + 1) bi bp bc
noncomputable def nxA (v : Nat → Int) (tu w : Int) : Int := if (nxF v tu (fS v).toNat 0 1000 (-1) (-1)).2.1 = -1 ∨ w = 0 then (nxF v tu (fS v).toNat 0 1000 (-1) (-1)).2.1 else if w = 1 then (nxF v tu (fS v).toNat 0 1000 (-1) (-1)).2.2 else (nxF v tu (fS v).toNat 0 1000 (-1) (-1)).1
noncomputable def qNext (v : Nat → Int) (tu w : Int) : Int × Int := if (tu = 0 ∨ tu = 1) ∧ 0 ≤ w ∧ w < 3 then (nxA v tu w, 0) else (-2, -2)
section PT
variable {L d : Nat} {I : zI} {v : Nat → Int} {hs : Nat → Nat → Int} {hn : Nat} {ct tx : Nat → Int} {tl : Nat}
theorem fS_rng (ho : OKv v) : (1 ≤ fS v ∧ fS v ≤ 8) ∧ (fS v) % (v 9) = 0 ∧ 1 ≤ v 9 := ⟨ho.pos, w_dvd, ho.2.2.1.1.1⟩
theorem e6 (h : StAt I 3 v) : ∀ j, j < 8 → I 6 j = vc v j := h.2.2.2.2
theorem e5 (h : StAt I 3 v) : I 5 0 = v 9 ∧ I 5 0 * I 5 1 = fS v := ⟨h.2.2.1, by rw [h.2.2.1, h.2.2.2.1]; rfl⟩
theorem c_gain {p x : Int} (h3 : StAt I 3 v) (ho : OKv v) (hS : SDat I (v 0).toNat (vcel v)) (hp : 0 ≤ p ∧ p < fS v) (hx : 0 ≤ x ∧ x < 4 * v 0) (hu : ∀ j : Nat, (j : Int) < fS v → v (11 + j) ≠ -1 → v (11 + j) / 4 ≠ x / 4) : Ev L (d + 2) k_X4_addedCost [vR 37, vR 5, vI p, vI x] I (some (vI (adA v p x))) I := by
  have hro := h3.ro ho
  have hf := fS_rng ho
  have he := e5 h3
  have hfN := fN_le ho
  have hev := c_addedCost (L := L) (d := d) (I := I) (n := fN v) (a := 5) (f := fC v) (p := p) (v := x) hfN.1 hS.2.2.2.2.1 IsR5 hro.1 hro.2 (by rw [he.2]; exact hp) (by omega) (fun j hj hjp hj1 => by
    rw [he.2] at hj
    rw [e6 h3 j (by omega)] at hj1 ⊢
    have h4 := ho.2.2.2.1 j (by omega)
    have := hu j hj hj1
    exact ⟨by show v (11 + j) < _; omega, fun z => this z.symm⟩)
  have e : adC (fC v) (I 6) (I 5 0) (I 5 0 * I 5 1) p x = adA v p x := by
    rw [he.2, he.1]
    exact adF_eq hf.2.2 hp hf.2.1 (by omega) (e6 h3) 4 0
  show Ev L (d + 2) k_X4_addedCost [vR 37, vR 5, vI p, vI x] I (some (vI (adA v p x))) I
  rw [← e]
  exact hev
theorem c_cost (h : CI I v hs hn ct tx tl) : Ct L (d + 5) k_X7_cost [vR 2] I (PQ I (csA v, 0) v hs hn ct tx tl) := by
  show Go L (d + 5) k_X7_cost 0 [some (vR 2)] [] I _
  refine g_l 1 rfl rfl ?_
  refine g_call rfl (c_fresh h) (fun r J hJ => ?_) (hr := rcv2 rfl)
  obtain ⟨rfl, hC, hS, hF⟩ := hJ
  have hro := hC.1.ro hC.2.1
  have hf := fS_rng h.2.1
  have he := e5 hC.1
  have hfN := fN_le h.2.1
  have h4 := h.2.1.2.2.2.1
  have hev := c_wholeCost (L := L) (d := d + 1) (I := J) (n := fN v) (a := 5) (f := fC v) hfN.1 hS.2.2.2.2.1 IsR5 hro.1 hro.2 (fun j hj => by
    rw [he.2] at hj
    rw [e6 hC.1 j (by omega)]
    have := h4 j (by omega)
    show v (11 + j) < _
    omega) (fun i j hi hj hij => by
    rw [he.2] at hi hj
    rw [e6 hC.1 i (by omega), e6 hC.1 j (by omega)]
    intro a b
    have a1 := h4 i (by omega)
    have b1 := h4 j (by omega)
    have a2 : v (11 + i) ≠ -1 := a
    have b2 : v (11 + j) ≠ -1 := b
    exact h.2.1.2.2.2.2 i j (by omega) (by omega) hij (by omega) (by omega))
  have e : wcF (fC v) (J 6) (J 5 0) (J 5 0 * J 5 1) (J 5 0 * J 5 1).toNat 0 / 2 = csA v := by
    rw [he.2, he.1]
    unfold csA
    rw [wcF_eq hf.2.2 hf.2.1 (by omega) (e6 hC.1) _ 0 (by omega)]
  rw [e] at hev
  refine g_l 5 rfl rfl ?_
  refine g_fr rfl rfl ⟨⟨by decide, by omega, by decide⟩, by decide⟩ rfl ?_
  refine g_fr rfl rfl ⟨⟨by decide, by omega, by decide⟩, by decide⟩ rfl ?_
  refine g_callE rfl hev ?_ (hr := rcv37 rfl)
  exact g_ret rfl rfl ⟨rfl, hC, fun q hq => hF q (by omega)⟩
theorem plF_sees {c : Nat → Int} {k : Int} (m p : Nat) (h : ∀ j, p ≤ j → j < p + m → c j = -1 ∨ c j / 4 ≠ k) : plF c k m p = -1 := by
  rcases plF_rng (c := c) (k := k) m p with z | z
  · exact z
  · rcases h (plF c k m p).toNat (by omega) (by omega) with q | q
    · exact absurd q z.2.2.1
    · exact absurd z.2.2.2 q
theorem c_place {k : Int} (h3 : StAt I 3 v) (ho : OKv v) (hk : rng k) : Ev L (d + 1) k_X3_placeOf [vR 5, vI k] I (some (vI (pl (vc v) (fS v) k))) I := by
  have hro := h3.ro ho
  have he := e5 h3
  have hf := fS_rng ho
  have e : pl (I 6) (I 5 0 * I 5 1) k = pl (vc v) (fS v) k := by
    rw [he.2]
    exact plF_eq _ _ (fun j a b => e6 h3 j (by omega))
  rw [← e]
  exact c_placeOf IsR5 hro.1 hro.2 hk
theorem sPut_ok {p k t : Int} (ho : OKv v) : ((sPut v p k t).1 < 0 → (sPut v p k t).2 = v ∧ why3 (sPut v p k t).1) ∧ rng (sPut v p k t).1 := by
  unfold sPut
  split
  · split
    · have := adC_rng (ek (vcel v)) (vc v) (v 9) (v 9 * v 10) p (4 * k + t)
      refine ⟨fun z => absurd z (by show ¬ adC _ _ _ _ _ _ < 0; omega), ?_⟩
      show rng (adC _ _ _ _ _ _)
      omega
    · exact ⟨fun _ => ⟨rfl, Or.inr (Or.inl rfl)⟩, r_3⟩
  · exact ⟨fun _ => ⟨rfl, Or.inl rfl⟩, r_2⟩
theorem c_putOn {p k t : Int} (h : CI I v hs hn ct tx tl) (hp : rng p) (hk : rng k) (ht : rng t) : Ct L (d + 5) k_X7_putOnTable [vR 2, vI p, vI k, vI t] I (fun r J => r = some (vI (sPut v p k t).1) ∧ StAt J 3 (sPut v p k t).2 ∧ CR J hs hn ct tx tl ∧ ∀ q, q ≠ 6 → (q < 37 ∨ 75 ≤ q) → J q = I q) := by
  have hro := h.1.ro h.2.1
  have hf := fS_rng h.2.1
  have he := e5 h.1
  have bad : ¬ ((0 ≤ p ∧ p < v 9 * v 10) ∧ (0 ≤ k ∧ k < v 0) ∧ 0 ≤ t ∧ t < 4) → Go L (d + 5) k_X7_putOnTable 33 [some (vR 2), some (vI p), some (vI k), some (vI t), none, none] [] I (fun r J => r = some (vI (sPut v p k t).1) ∧ StAt J 3 (sPut v p k t).2 ∧ CR J hs hn ct tx tl ∧ ∀ q, q ≠ 6 → (q < 37 ∨ 75 ≤ q) → J q = I q) := fun hno => by
    refine g_p 35 rfl rfl ?_
    unfold sPut
    rw [if_neg hno]
    exact g_ret rfl rfl ⟨rfl, h.1, h.2.2, fun _ _ _ => rfl⟩
  have b1 := b2i_r (0 ≤ p ∧ p < I 5 0 * I 5 1)
  have b2 := b2i_r (0 ≤ k ∧ k < v 0)
  have b3 := b2i_r (0 ≤ t ∧ t < 4)
  show Go L (d + 5) k_X7_putOnTable 0 [some (vR 2), some (vI p), some (vI k), some (vI t), none, none] [] I _
  refine g_l 1 rfl rfl ?_
  refine g_fr rfl rfl ⟨⟨by decide, by omega, by decide⟩, by decide⟩ rfl ?_
  refine g_fr rfl rfl ⟨⟨by decide, by omega, by decide⟩, by decide⟩ rfl ?_
  refine g_l 8 rfl rfl ?_
  refine g_callE rfl (c_hasPlace IsR5 hro.1 hp) ?_ (hr := rcv5 rfl)
  refine g_if_eq rfl (by omega) (fun g1 => ?_) (fun g1 => ?_)
  · exact bad (fun z => b2i_0 g1 (by rw [he.2]; exact z.1))
  · have g1 := b2i_1 g1
    rw [he.2] at g1
    refine g_l 15 rfl rfl ?_
    refine g_fr rfl rfl ⟨⟨by decide, by omega, by decide⟩, by decide⟩ rfl ?_
    refine g_l 19 rfl rfl ?_
    refine g_callE rfl (c_hasPiece St3 h.1 h.2.1 hk) ?_ (hr := rcv3 rfl)
    refine g_if_eq rfl (by omega) (fun g2 => ?_) (fun g2 => ?_)
    · exact bad (fun z => b2i_0 g2 z.2.1)
    · have g2 := b2i_1 g2
      refine g_l 26 rfl rfl ?_
      refine g_p 27 rfl rfl ?_
      refine g_callE rfl (c_isWithin ht (by omega)) ?_
      refine g_if_ne rfl (by omega) (fun g3 => ?_) (fun g3 => ?_)
      · have g3 := b2i_1 g3
        have hok : (0 ≤ p ∧ p < v 9 * v 10) ∧ (0 ≤ k ∧ k < v 0) ∧ 0 ≤ t ∧ t < 4 := ⟨g1, g2, g3⟩
        unfold sPut
        rw [if_pos hok]
        have h4 := h.2.1.2.2.2.1 p.toNat (by omega)
        have h0 := h.2.1.1
        have occ : ¬ (v (11 + p.toNat) = -1 ∧ pl (vc v) (v 9 * v 10) k = -1) → Go L (d + 5) k_X7_putOnTable 67 [some (vR 2), some (vI p), some (vI k), some (vI t), none, none] [] I (fun r J => r = some (vI (if v (11 + p.toNat) = -1 ∧ pl (vc v) (v 9 * v 10) k = -1 then (adC (ek (vcel v)) (vc v) (v 9) (v 9 * v 10) p (4 * k + t), zup v (11 + p.toNat) (4 * k + t)) else (-3, v)).1) ∧ StAt J 3 (if v (11 + p.toNat) = -1 ∧ pl (vc v) (v 9 * v 10) k = -1 then (adC (ek (vcel v)) (vc v) (v 9) (v 9 * v 10) p (4 * k + t), zup v (11 + p.toNat) (4 * k + t)) else (-3, v)).2 ∧ CR J hs hn ct tx tl ∧ ∀ q, q ≠ 6 → (q < 37 ∨ 75 ≤ q) → J q = I q) := fun hno => by
          refine g_p 69 rfl rfl ?_
          rw [if_neg hno]
          exact g_ret rfl rfl ⟨rfl, h.1, h.2.2, fun _ _ _ => rfl⟩
        refine g_l 37 rfl rfl ?_
        refine g_fr rfl rfl ⟨⟨by decide, by omega, by decide⟩, by decide⟩ rfl ?_
        refine g_fr rfl rfl ⟨⟨by decide, by omega, by decide⟩, by decide⟩ rfl ?_
        refine g_fr rfl rfl ⟨⟨by decide, by omega, by decide⟩, by decide⟩ rfl ?_
        refine g_l 47 rfl rfl ?_
        refine g_ia p.toNat rfl rfl (by omega) (by omega) ?_
        rw [e6 h.1 _ (by omega)]
        have e0 : vc v p.toNat = v (11 + p.toNat) := rfl
        rw [e0]
        refine g_p 49 rfl rfl ?_
        refine g_ic_ne rfl (by omega) (by omega) (fun g4 => ?_) (fun g4 => ?_)
        · exact occ (fun z => g4 z.1)
        · refine g_l 53 rfl rfl ?_
          refine g_fr rfl rfl ⟨⟨by decide, by omega, by decide⟩, by decide⟩ rfl ?_
          refine g_fr rfl rfl ⟨⟨by decide, by omega, by decide⟩, by decide⟩ rfl ?_
          refine g_l 60 rfl rfl ?_
          refine g_callE rfl (c_place h.1 h.2.1 hk) ?_ (hr := rcv5 rfl)
          have hpl := pl_rng (c := vc v) (n := fS v) (k := k) (by omega)
          refine g_p 64 rfl rfl ?_
          refine g_ic_eq rfl (by omega) (by omega) (fun g5 => ?_) (fun g5 => ?_)
          · have g4 : v (11 + p.toNat) = -1 := by omega
            rw [if_pos ⟨g4, g5⟩]
            refine g_p 71 rfl rfl ?_
            refine g_l 72 rfl rfl ?_
            refine g_p 73 rfl rfl ?_
            refine g_l 74 rfl rfl ?_
            refine g_p 75 rfl rfl ?_
            refine g_l 77 rfl rfl ?_
            refine g_l 78 rfl rfl ?_
            refine g_call rfl (c_fresh h) (fun r J hJ => ?_) (hr := rcv2 rfl)
            obtain ⟨rfl, hC, hS, hF⟩ := hJ
            have hfree := plF_none (c := vc v) (k := k) _ 0 g5
            refine g_l 82 rfl rfl ?_
            refine g_fr rfl rfl ⟨⟨by decide, by omega, by decide⟩, by decide⟩ rfl ?_
            refine g_fr rfl rfl ⟨⟨by decide, by omega, by decide⟩, by decide⟩ rfl ?_
            refine g_l 89 rfl rfl ?_
            refine g_l 91 rfl rfl ?_
            refine g_callE rfl (c_gain (p := p) (x := 4 * k + t) hC.1 h.2.1 hS g1 ⟨by omega, by omega⟩ (fun j hj hj1 => ?_)) ?_ (hr := rcv37 rfl)
            · have := hfree j (by omega) (by omega)
              unfold vc at this
              omega
            · refine g_l 96 rfl rfl ?_
              refine g_l 97 rfl rfl ?_
              refine g_fr rfl rfl ⟨⟨by decide, by omega, by decide⟩, by decide⟩ rfl ?_
              refine g_fr rfl rfl ⟨⟨by decide, by omega, by decide⟩, by decide⟩ rfl ?_
              refine g_fr rfl rfl ⟨⟨by decide, by omega, by decide⟩, by decide⟩ rfl ?_
              refine g_l 107 rfl rfl ?_
              refine g_l 109 rfl rfl ?_
              refine g_ias p.toNat rfl rfl (by omega) (by omega) (by omega) ?_
              refine g_l 112 rfl rfl ?_
              refine g_ret rfl rfl ⟨rfl, ⟨?_, fun j hj => ?_, ?_, ?_, fun j hj => ?_⟩, ?_, fun q q1 q2 => ?_⟩
              · rw [zup2_ne (by omega)]
                show _ = zup v (11 + p.toNat) (4 * k + t) 0
                rw [zup_n (by omega)]
                exact hC.1.1
              · rw [zup2_ne (by omega)]
                show _ = zup v (11 + p.toNat) (4 * k + t) (1 + j)
                rw [zup_n (by omega)]
                exact hC.1.2.1 j hj
              · rw [zup2_ne (by omega)]
                show _ = zup v (11 + p.toNat) (4 * k + t) 9
                rw [zup_n (by omega)]
                exact hC.1.2.2.1
              · rw [zup2_ne (by omega)]
                show _ = zup v (11 + p.toNat) (4 * k + t) 10
                rw [zup_n (by omega)]
                exact hC.1.2.2.2.1
              · show zup2 J 6 p.toNat (4 * k + t) 6 j = zup v (11 + p.toNat) (4 * k + t) (11 + j)
                by_cases hjp : j = p.toNat
                · rw [hjp, zup2_at, zup_s]
                · rw [zup2_an hjp, zup_n (by omega)]
                  exact hC.1.2.2.2.2 j hj
              · exact hC.2.2.fr (fun q hq => zup2_ne (by omega))
              · rw [zup2_ne q1]
                exact hF q q2
          · exact occ (fun z => g5 z.2)
      · exact bad (fun z => b2i_0 (show b2i (0 ≤ t ∧ t < 4) = 0 by omega) z.2.2)
theorem c_puts {p k t : Int} (h : CI I v hs hn ct tx tl) (hp : rng p) (hk : rng k) (ht : rng t) : Ct L (d + 6) k_X7_puts [vR 2, vI p, vI k, vI t] I (PZ I (sPut v p k t) v hs hn ct tx tl) := by
  show Go L (d + 6) k_X7_puts 0 [some (vR 2), some (vI p), some (vI k), some (vI t)] [] I _
  refine g_l 1 rfl rfl ?_
  refine g_fr rfl rfl ⟨⟨by decide, by omega, by decide⟩, by decide⟩ rfl ?_
  refine g_l 5 rfl rfl ?_
  refine g_fr rfl rfl ⟨⟨by decide, by omega, by decide⟩, by decide⟩ rfl ?_
  refine g_call rfl (c_before h) (fun r J hJ => ?_) (hr := rcv7 rfl)
  obtain ⟨rfl, h7, hC, hF⟩ := hJ
  refine g_l 12 rfl rfl ?_
  refine g_l 13 rfl rfl ?_
  refine g_l 14 rfl rfl ?_
  refine g_l 15 rfl rfl ?_
  refine g_l 16 rfl rfl ?_
  refine g_call rfl (c_putOn hC hp hk ht) (fun r K hK => ?_) (hr := rcv2 rfl)
  obtain ⟨rfl, k1, k2, k3⟩ := hK
  have hz := sPut_ok (p := p) (k := k) (t := t) h.2.1
  refine g_call rfl (c_endChange hz.1 hz.2 k1 (ok_put hC.2.1) (h7.fq (fun q a b => k3 q (by omega) (by omega))) hC.2.1 k2) (fun r M hM => ?_) (hr := rcv2 rfl)
  obtain ⟨rfl, m1, m2⟩ := hM
  exact g_ret rfl rfl ⟨rfl, m1, fun q hq => by rw [m2 q hq, k3 q (by omega) (by omega), hF q hq]⟩
end PT
