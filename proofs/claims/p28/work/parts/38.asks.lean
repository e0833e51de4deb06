/-! EdgeJoin: questions -/
def fN (v : Nat → Int) : Nat := (v 0).toNat
def fC (v : Nat → Int) : Nat → Int := ek (vcel v)
def fM (v : Nat → Int) : Nat → Int := Mt (vcel v) (fN v)
def fG (v : Nat → Int) : Nat → Int := gr (fM v) (fN v)
def fS (v : Nat → Int) : Int := v 9 * v 10
def qCell (v : Nat → Int) (p x y : Int) : Int × Int := if (0 ≤ p ∧ p < v 0) ∧ (0 ≤ x ∧ x < 4) ∧ 0 ≤ y ∧ y < 4 then (col (v (1 + p.toNat)) (4 * y + x), 0) else (-2, -2)
def ofA (v : Nat → Int) (p : Nat) (w : Int) : Int := if w = 0 then srF (fmF (fC v) p 4 : Nat) 4 0 else if w = 1 then (fmF (fC v) p 4 : Nat) else if w = 2 then fG v p else if w = 3 then pl (vc v) (fS v) p else tn (vc v) (fS v) p
def qOf (v : Nat → Int) (p w : Int) : Int × Int := if (0 ≤ p ∧ p < v 0) ∧ 0 ≤ w ∧ w < 5 then (ofA v p.toNat w, 0) else (-2, -2)
def qEdge (v : Nat → Int) (p s : Int) : Int × Int := if (0 ≤ p ∧ p < v 0) ∧ 0 ≤ s ∧ s < 4 then (fC v (4 * p + s).toNat, 0) else (-2, -2)
def qUnl (v : Nat → Int) (p s q t : Int) : Int × Int := if (0 ≤ p ∧ p < v 0) ∧ (0 ≤ s ∧ s < 4) ∧ (0 ≤ q ∧ q < v 0) ∧ (0 ≤ t ∧ t < 4) ∧ p ≠ q then (dif (fC v (4 * p + s).toNat) (fC v (4 * q + t).toNat), 0) else (-2, -2)
def qMate (v : Nat → Int) (p s : Int) : Int × Int := if (0 ≤ p ∧ p < v 0) ∧ 0 ≤ s ∧ s < 4 then (if fC v (4 * p + s).toNat = 0 then (-3, -3) else (fM v (4 * p + s).toNat, 0)) else (-2, -2)
def prA (v : Nat → Int) (i : Int) : Int := if i = -1 then cpF (fM v) (4 * fN v) 0 else fpF (fM v) i (4 * fN v) 0 0
def qPairs (v : Nat → Int) (i : Int) : Int × Int := if i < -1 then (-2, -2) else (prA v i, 0)
def gpA (v : Nat → Int) : Int := cgF (fG v) (fN v) 0
noncomputable def edA (v : Nat → Int) (w : Int) : Int := ceF (fC v) w (4 * fN v) 0
noncomputable def qEdges (v : Nat → Int) (w : Int) : Int × Int := if w = 0 ∨ w = 1 then (edA v w, 0) else (-2, -2)
def qAt (v : Nat → Int) (p : Int) : Int × Int := if 0 ≤ p ∧ p < v 9 * v 10 then (v (11 + p.toNat), 0) else (-2, -2)
def csA (v : Nat → Int) : Int := wcF (fC v) (vc v) (v 9) (fS v) (fS v).toNat 0 / 2
section AS
variable {L d : Nat} {I : zI} {v : Nat → Int} {hs : Nat → Nat → Int} {hn : Nat} {ct tx : Nat → Int} {tl : Nat}
theorem fN_le (ho : OKv v) : fN v ≤ 8 ∧ (fN v : Int) = v 0 := by
  have := ho.1
  unfold fN
  omega
theorem sd_f {J : zI} (hS : SDat J (v 0).toNat (vcel v)) : ∀ k, k < 4 * fN v → J 39 k = fC v k := hS.2.2.2.1
theorem fC_rng (v : Nat → Int) : ∀ k, 0 ≤ fC v k ∧ fC v k ≤ 255 := ek_rng _
theorem fG_rng (v : Nat → Int) (h8 : fN v ≤ 8) : ∀ p, p < fN v → 0 ≤ fG v p ∧ fG v p < 8 := jgF_rng (4 * fN v) 0 _ (fun p hp => by omega) (by omega) (Mt_ok _ _)
theorem c_of {p w : Int} (h : CI I v hs hn ct tx tl) (hp : rng p) (hw : rng w) : Ct L (d + 5) k_X7_of [vR 2, vI p, vI w] I (PQ I (qOf v p w) v hs hn ct tx tl) := by
  have bad : ¬ ((0 ≤ p ∧ p < v 0) ∧ 0 ≤ w ∧ w < 5) → Go L (d + 5) k_X7_of 19 [some (vR 2), some (vI p), some (vI w)] [] I (PQ I (qOf v p w) v hs hn ct tx tl) := fun hno => by
    refine g_l 20 rfl rfl ?_
    refine g_p 22 rfl rfl ?_
    unfold qOf
    rw [if_neg hno]
    refine g_call rfl (c_fail (Or.inl rfl) h) (fun r J hJ => ?_) (hr := rcv2 rfl)
    obtain ⟨rfl, a, b⟩ := hJ
    exact g_ret rfl rfl ⟨rfl, a, b⟩
  have b1 := b2i_r (0 ≤ p ∧ p < v 0)
  have b2 := b2i_r (0 ≤ w ∧ w < 5)
  have hro := h.1.ro h.2.1
  have hE : ∀ k, plF (I 6) k (I 5 0 * I 5 1).toNat 0 = plF (vc v) k (fS v).toNat 0 := fun k => by
    have hpos := h.2.1.pos
    rw [h.1.2.2.1, h.1.2.2.2.1]
    exact plF_eq _ _ (fun j a b => by
      have : j < 8 := by omega
      exact h.1.2.2.2.2 j this)
  show Go L (d + 5) k_X7_of 0 [some (vR 2), some (vI p), some (vI w)] [] I _
  refine g_l 1 rfl rfl ?_
  refine g_fr rfl rfl ⟨⟨by decide, by omega, by decide⟩, by decide⟩ rfl ?_
  refine g_l 5 rfl rfl ?_
  refine g_callE rfl (c_hasPiece St3 h.1 h.2.1 hp) ?_ (hr := rcv3 rfl)
  refine g_if_eq rfl (by omega) (fun g1 => ?_) (fun g1 => ?_)
  · exact bad (fun z => b2i_0 g1 z.1)
  · have g1 := b2i_1 g1
    refine g_l 12 rfl rfl ?_
    refine g_p 13 rfl rfl ?_
    refine g_callE rfl (c_isWithin hw (by omega)) ?_
    refine g_if_ne rfl (by omega) (fun g2 => ?_) (fun g2 => ?_)
    · have g2 := b2i_1 g2
      obtain ⟨pn, hpn⟩ := Int.eq_ofNat_of_zero_le g1.1
      have hfN := fN_le h.2.1
      have hpf : pn < fN v := by omega
      have e : qOf v p w = (ofA v pn w, 0) := by
        unfold qOf
        rw [if_pos ⟨g1, g2⟩, hpn]
        rfl
      rw [e]
      subst hpn
      have fresh := c_fresh (L := L) (d := d) h
      have hwc : w = 0 ∨ w = 1 ∨ w = 2 ∨ w = 3 ∨ w = 4 := by omega
      refine g_l 27 rfl rfl ?_
      rcases hwc with rfl | rfl | rfl | rfl | rfl
      · refine g_ts 56 rfl (by decide) (by decide) ?_
        refine g_l 57 rfl rfl ?_
        refine g_call rfl fresh (fun r J hJ => ?_) (hr := rcv2 rfl)
        obtain ⟨rfl, hC, hS, hF⟩ := hJ
        refine g_l 61 rfl rfl ?_
        refine g_callE rfl (c_sortOf hfN.1 hpf (sd_f hS) (fC_rng v)) ?_ (hr := rcv37 rfl)
        exact g_ret rfl rfl ⟨rfl, hC, fun q hq => hF q (by omega)⟩
      · refine g_ts 65 rfl (by decide) (by decide) ?_
        refine g_l 66 rfl rfl ?_
        refine g_call rfl fresh (fun r J hJ => ?_) (hr := rcv2 rfl)
        obtain ⟨rfl, hC, hS, hF⟩ := hJ
        refine g_l 70 rfl rfl ?_
        refine g_callE rfl (c_flatMask hfN.1 hpf (sd_f hS) (fC_rng v)) ?_ (hr := rcv37 rfl)
        exact g_ret rfl rfl ⟨rfl, hC, fun q hq => hF q (by omega)⟩
      · refine g_ts 74 rfl (by decide) (by decide) ?_
        refine g_l 75 rfl rfl ?_
        refine g_call rfl fresh (fun r J hJ => ?_) (hr := rcv2 rfl)
        obtain ⟨rfl, hC, hS, hF⟩ := hJ
        refine g_fr rfl rfl ⟨⟨by decide, by omega, by decide⟩, by decide⟩ rfl ?_
        refine g_l 82 rfl rfl ?_
        refine g_ia pn rfl rfl rfl (by omega) ?_
        rw [hS.2.2.2.2.2.2 pn hpf]
        exact g_ret rfl rfl ⟨rfl, hC, fun q hq => hF q (by omega)⟩
      · refine g_ts 84 rfl (by decide) (by decide) ?_
        refine g_l 85 rfl rfl ?_
        refine g_fr rfl rfl ⟨⟨by decide, by omega, by decide⟩, by decide⟩ rfl ?_
        refine g_fr rfl rfl ⟨⟨by decide, by omega, by decide⟩, by decide⟩ rfl ?_
        refine g_l 92 rfl rfl ?_
        refine g_callE rfl (c_placeOf IsR5 hro.1 hro.2 (by omega)) ?_ (hr := rcv5 rfl)
        refine g_ret rfl rfl ⟨?_, h, FrC.rf⟩
        show some (vI (plF (I 6) pn (I 5 0 * I 5 1).toNat 0)) = _
        rw [hE]
        rfl
      · refine g_ts 96 rfl (by decide) (by decide) ?_
        refine g_l 97 rfl rfl ?_
        refine g_fr rfl rfl ⟨⟨by decide, by omega, by decide⟩, by decide⟩ rfl ?_
        refine g_fr rfl rfl ⟨⟨by decide, by omega, by decide⟩, by decide⟩ rfl ?_
        refine g_l 104 rfl rfl ?_
        refine g_callE rfl (c_turnOf IsR5 hro.1 hro.2 (by omega)) ?_ (hr := rcv5 rfl)
        refine g_ret rfl rfl ⟨?_, h, FrC.rf⟩
        show _ = some (vI (tn (vc v) (fS v) pn))
        unfold tn pl
        rw [hE]
        have hpr := plF_rng (c := vc v) (k := (pn : Int)) (fS v).toNat 0
        have hpos := h.2.1.pos
        split
        · rfl
        · have h8 : (plF (vc v) pn (fS v).toNat 0).toNat < 8 := by
            rcases hpr with hpr | hpr
            · omega
            · have : (fS v).toNat ≤ 8 := by unfold fS; omega
              omega
          rw [h.1.2.2.2.2 _ h8]
          rfl
    · exact bad (fun z => b2i_0 (show b2i (0 ≤ w ∧ w < 5) = 0 by omega) z.2)
theorem c_edge {p s : Int} (h : CI I v hs hn ct tx tl) (hp : rng p) (hw : rng s) : Ct L (d + 5) k_X7_edge [vR 2, vI p, vI s] I (PQ I (qEdge v p s) v hs hn ct tx tl) := by
  have bad : ¬ ((0 ≤ p ∧ p < v 0) ∧ 0 ≤ s ∧ s < 4) → Go L (d + 5) k_X7_edge 19 [some (vR 2), some (vI p), some (vI s)] [] I (PQ I (qEdge v p s) v hs hn ct tx tl) := fun hno => by
    refine g_l 20 rfl rfl ?_
    refine g_p 22 rfl rfl ?_
    unfold qEdge
    rw [if_neg hno]
    refine g_call rfl (c_fail (Or.inl rfl) h) (fun r J hJ => ?_) (hr := rcv2 rfl)
    obtain ⟨rfl, a, b⟩ := hJ
    exact g_ret rfl rfl ⟨rfl, a, b⟩
  have b1 := b2i_r (0 ≤ p ∧ p < v 0)
  have b2 := b2i_r (0 ≤ s ∧ s < 4)
  show Go L (d + 5) k_X7_edge 0 [some (vR 2), some (vI p), some (vI s)] [] I _
  refine g_l 1 rfl rfl ?_
  refine g_fr rfl rfl ⟨⟨by decide, by omega, by decide⟩, by decide⟩ rfl ?_
  refine g_l 5 rfl rfl ?_
  refine g_callE rfl (c_hasPiece St3 h.1 h.2.1 hp) ?_ (hr := rcv3 rfl)
  refine g_if_eq rfl (by omega) (fun g1 => ?_) (fun g1 => ?_)
  · exact bad (fun z => b2i_0 g1 z.1)
  · have g1 := b2i_1 g1
    refine g_l 12 rfl rfl ?_
    refine g_p 13 rfl rfl ?_
    refine g_callE rfl (c_isWithin hw (by omega)) ?_
    refine g_if_ne rfl (by omega) (fun g2 => ?_) (fun g2 => ?_)
    · have g2 := b2i_1 g2
      have hfN := fN_le h.2.1
      unfold qEdge
      rw [if_pos ⟨g1, g2⟩]
      refine g_l 27 rfl rfl ?_
      refine g_call rfl (c_fresh h) (fun r J hJ => ?_) (hr := rcv2 rfl)
      obtain ⟨rfl, hC, hS, hF⟩ := hJ
      refine g_fr rfl rfl ⟨⟨by decide, by omega, by decide⟩, by decide⟩ rfl ?_
      refine g_p 34 rfl rfl ?_
      refine g_l 35 rfl rfl ?_
      refine g_p 36 rfl rfl ?_
      refine g_l 37 rfl rfl ?_
      refine g_p 38 rfl rfl ?_
      refine g_ia (4 * p + s).toNat rfl rfl (by omega) (by omega) ?_
      rw [sd_f hS _ (by omega)]
      exact g_ret rfl rfl ⟨rfl, hC, fun q hq => hF q (by omega)⟩
    · exact bad (fun z => b2i_0 (show b2i (0 ≤ s ∧ s < 4) = 0 by omega) z.2)
theorem c_unlike {p s q t : Int} (h : CI I v hs hn ct tx tl) (hp : rng p) (hs1 : rng s) (hq : rng q) (ht : rng t) : Ct L (d + 5) k_X7_unlike [vR 2, vI p, vI s, vI q, vI t] I (PQ I (qUnl v p s q t) v hs hn ct tx tl) := by
  have bad : ¬ ((0 ≤ p ∧ p < v 0) ∧ (0 ≤ s ∧ s < 4) ∧ (0 ≤ q ∧ q < v 0) ∧ (0 ≤ t ∧ t < 4) ∧ p ≠ q) → Go L (d + 5) k_X7_unlike 44 [some (vR 2), some (vI p), some (vI s), some (vI q), some (vI t)] [] I (PQ I (qUnl v p s q t) v hs hn ct tx tl) := fun hno => by
    refine g_l 45 rfl rfl ?_
    refine g_p 47 rfl rfl ?_
    unfold qUnl
    rw [if_neg hno]
    refine g_call rfl (c_fail (Or.inl rfl) h) (fun r J hJ => ?_) (hr := rcv2 rfl)
    obtain ⟨rfl, a, b⟩ := hJ
    exact g_ret rfl rfl ⟨rfl, a, b⟩
  have b1 := b2i_r (0 ≤ p ∧ p < v 0)
  have b2 := b2i_r (0 ≤ s ∧ s < 4)
  have b3 := b2i_r (0 ≤ q ∧ q < v 0)
  have b4 := b2i_r (0 ≤ t ∧ t < 4)
  show Go L (d + 5) k_X7_unlike 0 [some (vR 2), some (vI p), some (vI s), some (vI q), some (vI t)] [] I _
  refine g_l 1 rfl rfl ?_
  refine g_fr rfl rfl ⟨⟨by decide, by omega, by decide⟩, by decide⟩ rfl ?_
  refine g_l 5 rfl rfl ?_
  refine g_callE rfl (c_hasPiece St3 h.1 h.2.1 hp) ?_ (hr := rcv3 rfl)
  refine g_if_eq rfl (by omega) (fun g1 => ?_) (fun g1 => ?_)
  · exact bad (fun z => b2i_0 g1 z.1)
  · have g1 := b2i_1 g1
    refine g_l 12 rfl rfl ?_
    refine g_p 13 rfl rfl ?_
    refine g_callE rfl (c_isWithin hs1 (by omega)) ?_
    refine g_if_eq rfl (by omega) (fun g2 => ?_) (fun g2 => ?_)
    · exact bad (fun z => b2i_0 g2 z.2.1)
    · have g2 := b2i_1 g2
      refine g_l 20 rfl rfl ?_
      refine g_fr rfl rfl ⟨⟨by decide, by omega, by decide⟩, by decide⟩ rfl ?_
      refine g_l 24 rfl rfl ?_
      refine g_callE rfl (c_hasPiece St3 h.1 h.2.1 hq) ?_ (hr := rcv3 rfl)
      refine g_if_eq rfl (by omega) (fun g3 => ?_) (fun g3 => ?_)
      · exact bad (fun z => b2i_0 g3 z.2.2.1)
      · have g3 := b2i_1 g3
        refine g_l 32 rfl rfl ?_
        refine g_p 33 rfl rfl ?_
        refine g_callE rfl (c_isWithin ht (by omega)) ?_
        refine g_if_eq rfl (by omega) (fun g4 => ?_) (fun g4 => ?_)
        · exact bad (fun z => b2i_0 g4 z.2.2.2.1)
        · have g4 := b2i_1 g4
          refine g_l 40 rfl rfl ?_
          refine g_l 41 rfl rfl ?_
          refine g_ic_ne rfl (by omega) (by omega) (fun g5 => ?_) (fun g5 => ?_)
          · have hfN := fN_le h.2.1
            unfold qUnl
            rw [if_pos ⟨g1, g2, g3, g4, g5⟩]
            refine g_l 52 rfl rfl ?_
            refine g_call rfl (c_fresh h) (fun r J hJ => ?_) (hr := rcv2 rfl)
            obtain ⟨rfl, hC, hS, hF⟩ := hJ
            refine g_fr rfl rfl ⟨⟨by decide, by omega, by decide⟩, by decide⟩ rfl ?_
            refine g_p 59 rfl rfl ?_
            refine g_l 60 rfl rfl ?_
            refine g_p 61 rfl rfl ?_
            refine g_l 62 rfl rfl ?_
            refine g_p 63 rfl rfl ?_
            refine g_aa (c9 := 103) (n := 32) (4 * p + s).toNat rfl rfl ⟨Or.inl rfl, by omega⟩ (by omega) (by omega) (R40 _ (by omega)) ?_
            refine g_p 65 rfl rfl ?_
            refine g_l 66 rfl rfl ?_
            refine g_p 67 rfl rfl ?_
            refine g_l 69 rfl rfl ?_
            refine g_p 70 rfl rfl ?_
            refine g_ia (4 * q + t).toNat rfl (S41 (by omega)) (by omega) (by omega) ?_
            rw [hS.2.2.2.2.1 _ _ (by unfold fN at hfN; omega) (by unfold fN at hfN; omega) (by omega)]
            exact g_ret rfl rfl ⟨rfl, hC, fun q hq => hF q (by omega)⟩
          · exact bad (fun z => z.2.2.2.2 (by omega))
theorem c_pairs {i : Int} (h : CI I v hs hn ct tx tl) (hi : rng i) : Ct L (d + 5) k_X7_pairs [vR 2, vI i] I (PQ I (qPairs v i) v hs hn ct tx tl) := by
  have hfN := fN_le h.2.1
  show Go L (d + 5) k_X7_pairs 0 [some (vR 2), some (vI i)] [] I _
  refine g_l 1 rfl rfl ?_
  refine g_p 2 rfl rfl ?_
  refine g_ic_ge rfl (by omega) (by omega) (fun g1 => ?_) (fun g1 => ?_)
  · unfold qPairs prA
    rw [if_neg (by omega)]
    refine g_l 13 rfl rfl ?_
    refine g_p 14 rfl rfl ?_
    refine g_ic_ne rfl (by omega) (by omega) (fun g2 => ?_) (fun g2 => ?_)
    · rw [if_neg g2]
      refine g_l 28 rfl rfl ?_
      refine g_call rfl (c_fresh h) (fun r J hJ => ?_) (hr := rcv2 rfl)
      obtain ⟨rfl, hC, hS, hF⟩ := hJ
      refine g_l 32 rfl rfl ?_
      refine g_callE rfl (c_findPair (n := fN v) (M := fM v) hfN.1 hS.2.1 hS.2.2.2.2.2.1 (Mt_ok _ _) hi) ?_ (hr := rcv37 rfl)
      exact g_ret rfl rfl ⟨rfl, hC, fun q hq => hF q (by omega)⟩
    · rw [if_pos (by omega)]
      refine g_l 18 rfl rfl ?_
      refine g_call rfl (c_fresh h) (fun r J hJ => ?_) (hr := rcv2 rfl)
      obtain ⟨rfl, hC, hS, hF⟩ := hJ
      refine g_callE rfl (c_countPairs (n := fN v) (M := fM v) hfN.1 hS.2.1 hS.2.2.2.2.2.1 (Mt_ok _ _)) ?_ (hr := rcv37 rfl)
      refine g_goto rfl ?_
      exact g_ret rfl rfl ⟨rfl, hC, fun q hq => hF q (by omega)⟩
  · unfold qPairs
    rw [if_pos (by omega)]
    refine g_l 6 rfl rfl ?_
    refine g_p 8 rfl rfl ?_
    refine g_call rfl (c_fail (Or.inl rfl) h) (fun r J hJ => ?_) (hr := rcv2 rfl)
    obtain ⟨rfl, a, b⟩ := hJ
    exact g_ret rfl rfl ⟨rfl, a, b⟩
theorem c_groups (h : CI I v hs hn ct tx tl) : Ct L (d + 5) k_X7_groups [vR 2] I (PQ I (gpA v, 0) v hs hn ct tx tl) := by
  have hfN := fN_le h.2.1
  show Go L (d + 5) k_X7_groups 0 [some (vR 2)] [] I _
  refine g_l 1 rfl rfl ?_
  refine g_call rfl (c_fresh h) (fun r J hJ => ?_) (hr := rcv2 rfl)
  obtain ⟨rfl, hC, hS, hF⟩ := hJ
  refine g_callE rfl (c_countGroups (n := fN v) (g := fG v) hfN.1 hS.2.1 hS.2.2.2.2.2.2 (fun p hp => by have := fG_rng v hfN.1 p hp; omega)) ?_ (hr := rcv37 rfl)
  exact g_ret rfl rfl ⟨rfl, hC, fun q hq => hF q (by omega)⟩
theorem c_edges {w : Int} (h : CI I v hs hn ct tx tl) (hw : rng w) : Ct L (d + 5) k_X7_edges [vR 2, vI w] I (PQ I (qEdges v w) v hs hn ct tx tl) := by
  have hfN := fN_le h.2.1
  have b1 := b2i_r (w = 0 ∨ w = 1)
  show Go L (d + 5) k_X7_edges 0 [some (vR 2), some (vI w)] [] I _
  refine g_l 1 rfl rfl ?_
  refine g_callE rfl (c_isFlag hw) ?_
  refine g_if_ne rfl (by omega) (fun g1 => ?_) (fun g1 => ?_)
  · have g1 := b2i_1 g1
    unfold qEdges
    rw [if_pos g1]
    refine g_l 15 rfl rfl ?_
    refine g_call rfl (c_fresh h) (fun r J hJ => ?_) (hr := rcv2 rfl)
    obtain ⟨rfl, hC, hS, hF⟩ := hJ
    have tail : Go L (d + 5) k_X7_edges 28 [some (vR 2), some (vI w)] [vI w, vR 37] J (PQ I (edA v w, 0) v hs hn ct tx tl) := by
      refine g_callE rfl (c_countEdges (n := fN v) (f := fC v) hfN.1 hS.2.1 (sd_f hS) (fC_rng v) g1) ?_ (hr := rcv37 rfl)
      exact g_ret rfl rfl ⟨rfl, hC, fun q hq => hF q (by omega)⟩
    refine g_l 19 rfl rfl ?_
    refine g_p 20 rfl rfl ?_
    refine g_ic_ne rfl (by omega) (by omega) (fun g2 => ?_) (fun g2 => ?_)
    · have hw0 : w = 0 := by omega
      subst hw0
      refine g_p 28 rfl rfl ?_
      exact tail
    · have hw1 : w = 1 := by omega
      subst hw1
      refine g_p 24 rfl rfl ?_
      refine g_goto rfl ?_
      exact tail
  · unfold qEdges
    rw [if_neg (b2i_0 (show b2i (w = 0 ∨ w = 1) = 0 by omega))]
    refine g_l 8 rfl rfl ?_
    refine g_p 10 rfl rfl ?_
    refine g_call rfl (c_fail (Or.inl rfl) h) (fun r J hJ => ?_) (hr := rcv2 rfl)
    obtain ⟨rfl, a, b⟩ := hJ
    exact g_ret rfl rfl ⟨rfl, a, b⟩
theorem c_at {p : Int} (h : CI I v hs hn ct tx tl) (hp : rng p) : Ct L (d + 2) k_X7_at [vR 2, vI p] I (PQ I (qAt v p) v hs hn ct tx tl) := by
  have hro := h.1.ro h.2.1
  have hpos := h.2.1.pos
  have b1 := b2i_r (0 ≤ p ∧ p < v 9 * v 10)
  show Go L (d + 2) k_X7_at 0 [some (vR 2), some (vI p)] [] I _
  refine g_l 1 rfl rfl ?_
  refine g_fr rfl rfl ⟨⟨by decide, by omega, by decide⟩, by decide⟩ rfl ?_
  refine g_fr rfl rfl ⟨⟨by decide, by omega, by decide⟩, by decide⟩ rfl ?_
  refine g_l 8 rfl rfl ?_
  refine g_callE rfl (c_hasPlace IsR5 hro.1 hp) ?_ (hr := rcv5 rfl)
  rw [h.1.2.2.1, h.1.2.2.2.1]
  refine g_if_ne rfl (by omega) (fun g1 => ?_) (fun g1 => ?_)
  · have g1 := b2i_1 g1
    unfold qAt
    rw [if_pos g1]
    refine g_l 22 rfl rfl ?_
    refine g_fr rfl rfl ⟨⟨by decide, by omega, by decide⟩, by decide⟩ rfl ?_
    refine g_fr rfl rfl ⟨⟨by decide, by omega, by decide⟩, by decide⟩ rfl ?_
    refine g_fr rfl rfl ⟨⟨by decide, by omega, by decide⟩, by decide⟩ rfl ?_
    refine g_l 32 rfl rfl ?_
    refine g_ia p.toNat rfl rfl (by omega) (by omega) ?_
    rw [h.1.2.2.2.2 _ (by omega)]
    exact g_ret rfl rfl ⟨rfl, h, FrC.rf⟩
  · unfold qAt
    rw [if_neg (b2i_0 (show b2i (0 ≤ p ∧ p < v 9 * v 10) = 0 by omega))]
    refine g_l 15 rfl rfl ?_
    refine g_p 17 rfl rfl ?_
    refine g_call rfl (c_fail (Or.inl rfl) h) (fun r J hJ => ?_) (hr := rcv2 rfl)
    obtain ⟨rfl, a, b⟩ := hJ
    exact g_ret rfl rfl ⟨rfl, a, b⟩
end AS
