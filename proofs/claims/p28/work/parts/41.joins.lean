/-! EdgeJoin: joins and the small methods -/
section JN
variable {L d : Nat} {I : zI} {v : Nat → Int} {hs : Nat → Nat → Int} {hn : Nat} {ct tx : Nat → Int} {tl : Nat}
theorem c_joins {w g tu fr p : Int} (h : CI I v hs hn ct tx tl) (hw : rng w) (hg : rng g) (ht : rng tu) (hfr : rng fr) (hp : rng p) : Ct L (d + 13) k_X7_joins [vR 2, vI w, vI g, vI tu, vI fr, vI p] I (PQ I (qJoins v w g tu fr p) v hs hn ct tx tl) := by
  have hfN := fN_le h.2.1
  have b1 := b2i_r (1 ≤ w ∧ w ≤ 8)
  have b2 := b2i_r (1 ≤ g ∧ g ≤ 8)
  have b3 := b2i_r (tu = 0 ∨ tu = 1)
  have b4 := b2i_r (fr = 0 ∨ fr = 1)
  have bad : ¬ jnP w g tu fr p → Go L (d + 13) k_X7_joins 29 [some (vR 2), some (vI w), some (vI g), some (vI tu), some (vI fr), some (vI p)] [] I (PQ I (qJoins v w g tu fr p) v hs hn ct tx tl) := fun hno => by
    refine g_l 30 rfl rfl ?_
    refine g_p 32 rfl rfl ?_
    unfold qJoins
    rw [if_neg hno]
    refine g_call rfl (c_fail (Or.inl rfl) h) (fun r J hJ => ?_) (hr := rcv2 rfl)
    obtain ⟨rfl, a, b⟩ := hJ
    exact g_ret rfl rfl ⟨rfl, a, b⟩
  have bad2 : ¬ jnP w g tu fr p → Go L (d + 13) k_X7_joins 53 [some (vR 2), some (vI w), some (vI g), some (vI tu), some (vI fr), some (vI p)] [] I (PQ I (qJoins v w g tu fr p) v hs hn ct tx tl) := fun hno => by
    refine g_l 54 rfl rfl ?_
    refine g_p 56 rfl rfl ?_
    unfold qJoins
    rw [if_neg hno]
    refine g_call rfl (c_fail (Or.inl rfl) h) (fun r J hJ => ?_) (hr := rcv2 rfl)
    obtain ⟨rfl, a, b⟩ := hJ
    exact g_ret rfl rfl ⟨rfl, a, b⟩
  show Go L (d + 13) k_X7_joins 0 [some (vR 2), some (vI w), some (vI g), some (vI tu), some (vI fr), some (vI p)] [] I _
  refine g_l 1 rfl rfl ?_
  refine g_callE rfl (c_isLength hw) ?_
  refine g_if_eq rfl (by omega) (fun g1 => ?_) (fun g1 => ?_)
  · exact bad (fun z => b2i_0 g1 z.1)
  · have g1 := b2i_1 g1
    refine g_l 8 rfl rfl ?_
    refine g_callE rfl (c_isLength hg) ?_
    refine g_if_eq rfl (by omega) (fun g2 => ?_) (fun g2 => ?_)
    · exact bad (fun z => b2i_0 g2 z.2.1)
    · have g2 := b2i_1 g2
      have hm := Int.mul_le_mul g1.2 g2.2 (by omega) (by omega)
      have hm1 := Int.mul_le_mul g1.1 g2.1 (by omega) (by omega)
      refine g_l 15 rfl rfl ?_
      refine g_callE rfl (c_isFlag ht) ?_
      refine g_if_eq rfl (by omega) (fun g3 => ?_) (fun g3 => ?_)
      · exact bad (fun z => b2i_0 g3 z.2.2.1)
      · have g3 := b2i_1 g3
        refine g_l 23 rfl rfl ?_
        refine g_callE rfl (c_isFlag hfr) ?_
        refine g_if_ne rfl (by omega) (fun g4 => ?_) (fun g4 => ?_)
        · have g4 := b2i_1 g4
          have main : (p = -1 ∨ (0 ≤ p ∧ p < w * g)) → Go L (d + 13) k_X7_joins 60 [some (vR 2), some (vI w), some (vI g), some (vI tu), some (vI fr), some (vI p)] [] I (PQ I (qJoins v w g tu fr p) v hs hn ct tx tl) := fun hpp => by
            unfold qJoins
            rw [if_pos (show jnP w g tu fr p from ⟨g1, g2, g3, g4, hpp⟩)]
            have no : (w * g ≠ v 0 ∨ (tu = 1 ∧ 4 < v 0)) → Go L (d + 13) k_X7_joins 89 [some (vR 2), some (vI w), some (vI g), some (vI tu), some (vI fr), some (vI p)] [] I (PQ I (if w * g ≠ v 0 ∨ (tu = 1 ∧ 4 < v 0) then (-3, -3) else (jnA v w tu fr p, 0)) v hs hn ct tx tl) := fun hno => by
              refine g_l 90 rfl rfl ?_
              refine g_p 92 rfl rfl ?_
              rw [if_pos hno]
              refine g_call rfl (c_fail (Or.inr (Or.inl rfl)) h) (fun r J hJ => ?_) (hr := rcv2 rfl)
              obtain ⟨rfl, a, b⟩ := hJ
              exact g_ret rfl rfl ⟨rfl, a, b⟩
            have go : w * g = v 0 → ¬ (w * g ≠ v 0 ∨ (tu = 1 ∧ 4 < v 0)) → Go L (d + 13) k_X7_joins 96 [some (vR 2), some (vI w), some (vI g), some (vI tu), some (vI fr), some (vI p)] [] I (PQ I (if w * g ≠ v 0 ∨ (tu = 1 ∧ 4 < v 0) then (-3, -3) else (jnA v w tu fr p, 0)) v hs hn ct tx tl) := fun hwg hno => by
              rw [if_neg hno]
              refine g_l 97 rfl rfl ?_
              refine g_fr rfl rfl ⟨⟨by decide, by omega, by decide⟩, by decide⟩ rfl ?_
              refine g_l 101 rfl rfl ?_
              refine g_call rfl (c_fresh (d := d + 8) h) (fun r J hJ => ?_) (hr := rcv2 rfl)
              obtain ⟨rfl, hC, hS, hF⟩ := hJ
              have hfb := c_findBest (L := L) (d := d + (8 - fN v)) (I := J) (n := fN v) (w := w) (h := g) (tu := tu) (fr := fr) (f := fC v) ⟨by omega, by omega⟩ hS.2.1 (sd_f hS) hS.2.2.2.2.1 g1 g2 (by omega) g3 g4 (fC_rng v)
              rw [show d + (8 - fN v) + fN v + 4 = d + 12 by omega] at hfb
              have hrel := fs_rel (f := fC v) (n := fN v) (w := w) (tu := tu) (fr := fr) (fN v) 0 (fun _ => 0) 0 (1000, J 80) (1000, fun _ => 0) ⟨rfl, fun z => absurd (show (1000 : Int) < 1000 from z) (by decide)⟩
              generalize fs (fC v) (fN v) w tu fr (fN v) 0 (fun _ => 0) 0 (1000, J 80) = B at hfb hrel
              have hrel : RB B (jnB v w tu fr) := hrel
              have call : Go L (d + 13) k_X7_joins 127 [some (vR 2), some (vI w), some (vI g), some (vI tu), some (vI fr), some (vI p)] [vI fr, vI tu, vI g, vI w, vR 37, vR 75] J (PQ I (jnA v w tu fr p, 0) v hs hn ct tx tl) := by
                refine g_call rfl hfb (fun r K hK => ?_) (hr := rcv75 rfl)
                obtain ⟨rfl, ⟨k1, k2, k3, k4⟩, kF⟩ := hK
                have hKC : CI K v hs hn ct tx tl := ⟨hC.1.fq (fun q a b => kF q (by omega)), hC.2.1, hC.2.2.fr (fun q hq => kF q (by omega))⟩
                have hKF : FrC I K := fun q hq => by rw [kF q (by omega), hF q (by omega)]
                have b5 := b2i_r (B.1 < 1000)
                refine g_if_ne rfl (by omega) (fun q => ?_) (fun q => ?_)
                · have q := b2i_1 q
                  have hjn : (jnB v w tu fr).1 < 1000 := by rw [← hrel.1]; exact q
                  unfold jnA
                  rw [if_pos hjn]
                  refine g_l 138 rfl rfl ?_
                  refine g_p 139 rfl rfl ?_
                  refine g_ic_ne rfl (by omega) (by omega) (fun q2 => ?_) (fun q2 => ?_)
                  · rw [if_neg q2]
                    refine g_l 153 rfl rfl ?_
                    refine g_fr rfl rfl ⟨⟨by decide, by omega, by decide⟩, by decide⟩ rfl ?_
                    refine g_fr rfl rfl ⟨⟨by decide, by omega, by decide⟩, by decide⟩ rfl ?_
                    refine g_fr rfl rfl ⟨⟨by decide, by omega, by decide⟩, by decide⟩ rfl ?_
                    refine g_l 164 rfl rfl ?_
                    refine g_ia p.toNat rfl rfl (by omega) (by omega) ?_
                    rw [k2 _ (by omega), hrel.2 q]
                    exact g_ret rfl rfl ⟨rfl, hKC, hKF⟩
                  · rw [if_pos (Classical.not_not.mp q2)]
                    refine g_l 143 rfl rfl ?_
                    refine g_fr rfl rfl ⟨⟨by decide, by omega, by decide⟩, by decide⟩ rfl ?_
                    refine g_fi rfl rfl ⟨⟨by decide, by omega, by decide⟩, by decide⟩ ?_
                    refine g_goto rfl ?_
                    rw [k1, hrel.1]
                    exact g_ret rfl rfl ⟨rfl, hKC, hKF⟩
                · have q : ¬ B.1 < 1000 := b2i_0 (by omega)
                  have hjn : ¬ (jnB v w tu fr).1 < 1000 := by rw [← hrel.1]; exact q
                  unfold jnA
                  rw [if_neg hjn]
                  refine g_p 135 rfl rfl ?_
                  exact g_ret rfl rfl ⟨rfl, hKC, hKF⟩
              have second : ∀ (x : Int), x = tu → Go L (d + 13) k_X7_joins 116 [some (vR 2), some (vI w), some (vI g), some (vI tu), some (vI fr), some (vI p)] [vI x, vI g, vI w, vR 37, vR 75] J (PQ I (jnA v w tu fr p, 0) v hs hn ct tx tl) := fun x hx => by
                subst hx
                refine g_l 118 rfl rfl ?_
                refine g_p 119 rfl rfl ?_
                refine g_ic_ne rfl (by omega) (by omega) (fun q => ?_) (fun q => ?_)
                · have : fr = 0 := by omega
                  subst this
                  refine g_p 127 rfl rfl ?_
                  exact call
                · have : fr = 1 := by omega
                  subst this
                  refine g_p 123 rfl rfl ?_
                  refine g_goto rfl ?_
                  exact call
              refine g_l 105 rfl rfl ?_
              refine g_l 106 rfl rfl ?_
              refine g_l 107 rfl rfl ?_
              refine g_p 108 rfl rfl ?_
              refine g_ic_ne rfl (by omega) (by omega) (fun q => ?_) (fun q => ?_)
              · refine g_p 116 rfl rfl ?_
                exact second 0 (by omega)
              · refine g_p 112 rfl rfl ?_
                refine g_goto rfl ?_
                exact second 1 (by omega)
            refine g_l 61 rfl rfl ?_
            refine g_l 62 rfl rfl ?_
            refine g_p 63 rfl rfl ?_
            refine g_l 64 rfl rfl ?_
            refine g_fr rfl rfl ⟨⟨by decide, by omega, by decide⟩, by decide⟩ rfl ?_
            refine g_fi rfl rfl ⟨⟨by decide, by omega, by decide⟩, by decide⟩ ?_
            rw [h.1.1]
            refine g_ic_ne rfl (by omega) (by omega) (fun q => ?_) (fun q => ?_)
            · exact no (Or.inl q)
            · refine g_l 74 rfl rfl ?_
              refine g_p 75 rfl rfl ?_
              refine g_ic_ne rfl (by omega) (by omega) (fun q2 => ?_) (fun q2 => ?_)
              · exact go (by omega) (by omega)
              · refine g_l 79 rfl rfl ?_
                refine g_fr rfl rfl ⟨⟨by decide, by omega, by decide⟩, by decide⟩ rfl ?_
                refine g_fi rfl rfl ⟨⟨by decide, by omega, by decide⟩, by decide⟩ ?_
                refine g_p 86 rfl rfl ?_
                rw [h.1.1]
                refine g_ic_le rfl (by omega) (by omega) (fun q3 => ?_) (fun q3 => ?_)
                · exact go (by omega) (by omega)
                · exact no (by omega)
          refine g_l 38 rfl rfl ?_
          refine g_p 39 rfl rfl ?_
          refine g_ic_eq rfl (by omega) (by omega) (fun q => ?_) (fun q => ?_)
          · exact main (Or.inl q)
          · refine g_l 44 rfl rfl ?_
            refine g_l 45 rfl rfl ?_
            refine g_l 46 rfl rfl ?_
            refine g_p 47 rfl rfl ?_
            refine g_callE rfl (c_isWithin hp (by omega)) ?_
            have b5 := b2i_r (0 ≤ p ∧ p < w * g)
            refine g_if_ne rfl (by omega) (fun q2 => ?_) (fun q2 => ?_)
            · exact main (Or.inr (b2i_1 q2))
            · have q2 := b2i_0 (show b2i (0 ≤ p ∧ p < w * g) = 0 by omega)
              exact bad2 (fun z => Or.elim z.2.2.2.2 q q2)
        · exact bad (fun z => b2i_0 (show b2i (fr = 0 ∨ fr = 1) = 0 by omega) z.2.2.2.1)
/-- behind an answer -/
def PA (I : zI) (a : Int) (v : Nat → Int) (hs : Nat → Nat → Int) (hn : Nat) (ct tx : Nat → Int) (tl : Nat) : Option zV → zI → Prop := fun r J => r = some (vI a) ∧ CI J v hs hn ct tx tl ∧ FrC I J
theorem c_turns_n {p t : Int} (h : CI I v hs hn ct tx tl) (hp : rng p) (ht : rng t) (hno : ¬ ((0 ≤ p ∧ p < v 0) ∧ 0 ≤ t ∧ t < 4)) : Ct L (d + 4) k_X7_turns [vR 2, vI p, vI t] I (PA I (-2) v hs hn (rfs ct (-2)) tx tl) := by
  have b1 := b2i_r (0 ≤ p ∧ p < v 0)
  have b2 := b2i_r (0 ≤ t ∧ t < 4)
  have bad : Go L (d + 4) k_X7_turns 19 [some (vR 2), some (vI p), some (vI t)] [] I (PA I (-2) v hs hn (rfs ct (-2)) tx tl) := by
    refine g_l 20 rfl rfl ?_
    refine g_p 22 rfl rfl ?_
    refine g_call rfl (c_fail (Or.inl rfl) h) (fun r J hJ => ?_) (hr := rcv2 rfl)
    obtain ⟨rfl, a, b⟩ := hJ
    exact g_ret rfl rfl ⟨rfl, a, b⟩
  show Go L (d + 4) k_X7_turns 0 [some (vR 2), some (vI p), some (vI t)] [] I _
  refine g_l 1 rfl rfl ?_
  refine g_fr rfl rfl ⟨⟨by decide, by omega, by decide⟩, by decide⟩ rfl ?_
  refine g_l 5 rfl rfl ?_
  refine g_callE rfl (c_hasPiece St3 h.1 h.2.1 hp) ?_ (hr := rcv3 rfl)
  refine g_if_eq rfl (by omega) (fun g1 => ?_) (fun g1 => ?_)
  · exact bad
  · have g1 := b2i_1 g1
    refine g_l 12 rfl rfl ?_
    refine g_p 13 rfl rfl ?_
    refine g_callE rfl (c_isWithin ht (by omega)) ?_
    refine g_if_ne rfl (by omega) (fun g2 => ?_) (fun g2 => ?_)
    · exact absurd ⟨g1, b2i_1 g2⟩ hno
    · exact bad
theorem c_turns_y {p t : Nat} (h : CI I v hs hn ct tx tl) (hp : (p : Int) < v 0) (ht : t < 4) : Ct L (d + 4) k_X7_turns [vR 2, vI p, vI t] I (PA I (tqs (v (1 + p)) t) (zup v (1 + p) (tqs (v (1 + p)) t)) (hpush hs hn v) (if hn < 6 then hn + 1 else 6) ct tx tl) := by
  have h0 := h.2.1.1
  have b1 := b2i_r (0 ≤ (p : Int) ∧ (p : Int) < v 0)
  show Go L (d + 4) k_X7_turns 0 [some (vR 2), some (vI p), some (vI t)] [] I _
  refine g_l 1 rfl rfl ?_
  refine g_fr rfl rfl ⟨⟨by decide, by omega, by decide⟩, by decide⟩ rfl ?_
  refine g_l 5 rfl rfl ?_
  refine g_callE rfl (c_hasPiece St3 h.1 h.2.1 (by omega)) ?_ (hr := rcv3 rfl)
  refine g_if_eq rfl (by omega) (fun g1 => ?_) (fun g1 => ?_)
  · exact absurd ⟨by omega, hp⟩ (b2i_0 g1)
  · refine g_l 12 rfl rfl ?_
    refine g_p 13 rfl rfl ?_
    refine g_callE rfl (c_isWithin (by omega) (by omega)) ?_
    have b2 := b2i_r (0 ≤ (t : Int) ∧ (t : Int) < 4)
    refine g_if_ne rfl (by omega) (fun g2 => ?_) (fun g2 => ?_)
    · refine g_l 27 rfl rfl ?_
      refine g_fr rfl rfl ⟨⟨by decide, by omega, by decide⟩, by decide⟩ rfl ?_
      refine g_l 31 rfl rfl ?_
      refine g_fr rfl rfl ⟨⟨by decide, by omega, by decide⟩, by decide⟩ rfl ?_
      refine g_call rfl (c_keep (Or.inl rfl) h.2.2.1.1 h.1) (fun r J hJ => ?_) (hr := rcv11 rfl)
      obtain ⟨rfl, hJ1, hJ2⟩ := hJ
      have hv := h.1.fq (J := J) (fun q a b => hJ2 q (by omega))
      refine g_l 38 rfl rfl ?_
      refine g_fr rfl rfl ⟨⟨by decide, by omega, by decide⟩, by decide⟩ rfl ?_
      refine g_fr rfl rfl ⟨⟨by decide, by omega, by decide⟩, by decide⟩ rfl ?_
      refine g_l 45 rfl rfl ?_
      refine g_l 46 rfl rfl ?_
      refine g_fr rfl rfl ⟨⟨by decide, by omega, by decide⟩, by decide⟩ rfl ?_
      refine g_fr rfl rfl ⟨⟨by decide, by omega, by decide⟩, by decide⟩ rfl ?_
      refine g_l 53 rfl rfl ?_
      refine g_ia p rfl rfl rfl (by omega) ?_
      rw [hv.2.1 _ (by omega)]
      refine g_l 55 rfl rfl ?_
      refine g_callE rfl (c_turnedCells (d := d + 1) t (by omega)) ?_
      refine g_ias p rfl rfl (by omega) rfl (by omega) ?_
      refine g_l 60 rfl rfl ?_
      refine g_fr rfl rfl ⟨⟨by decide, by omega, by decide⟩, by decide⟩ rfl ?_
      refine g_fr rfl rfl ⟨⟨by decide, by omega, by decide⟩, by decide⟩ rfl ?_
      refine g_l 67 rfl rfl ?_
      refine g_ia p rfl rfl rfl (by omega) ?_
      rw [zup2_at]
      have hrest := h.2.2
      refine g_ret rfl rfl ⟨rfl, ⟨⟨?_, fun j hj => ?_, ?_, ?_, fun j hj => ?_⟩, ok_turn h.2.1 (by omega), ⟨?_, ?_⟩, fun j hj => ?_, ?_, ?_, fun j hj => ?_⟩, fun q hq => ?_⟩
      · rw [zup2_ne (by omega), zup_n (by omega)]
        exact hv.1
      · by_cases hjp : j = p
        · rw [hjp, zup2_at, zup_s]
        · rw [zup2_an hjp, zup_n (by omega)]
          exact hv.2.1 j hj
      · rw [zup2_ne (by omega), zup_n (by omega)]
        exact hv.2.2.1
      · rw [zup2_ne (by omega), zup_n (by omega)]
        exact hv.2.2.2.1
      · rw [zup2_ne (by omega), zup_n (by omega)]
        exact hv.2.2.2.2 j hj
      · exact hJ1.fr (fun q a b => zup2_ne (by omega))
      · exact hpush_ok hrest.1.2 h.2.1 hrest.1.1.2.1
      · rw [zup2_ne (by omega), hJ2 2 (by omega)]
        exact hrest.2.1 j hj
      · exact hrest.2.2.1.fr (by rw [zup2_ne (by omega), hJ2 83 (by omega)]) (by rw [zup2_ne (by omega), hJ2 84 (by omega)])
      · exact hrest.2.2.2.1.fr (fun q a b => by rw [zup2_ne (by omega), hJ2 q (by omega)])
      · rw [zup2_ne (by omega), hJ2 0 (by omega)]
        exact hrest.2.2.2.2 j hj
      · rw [zup2_ne (by omega), hJ2 q (by omega)]
    · exact absurd (show 0 ≤ (t : Int) ∧ (t : Int) < 4 by omega) (b2i_0 (show b2i (0 ≤ (t : Int) ∧ (t : Int) < 4) = 0 by omega))
theorem c_back_n (h : CI I v hs 0 ct tx tl) : Ct L (d + 4) k_X7_back [vR 2] I (PA I (-3) v hs 0 (rfs ct (-3)) tx tl) := by
  show Go L (d + 4) k_X7_back 0 [some (vR 2)] [] I _
  have h0 := h.2.2.1.1.1
  refine g_l 1 rfl rfl ?_
  refine g_fr rfl rfl ⟨⟨by decide, by omega, by decide⟩, by decide⟩ rfl ?_
  refine g_fi rfl rfl ⟨⟨by decide, by omega, by decide⟩, by decide⟩ ?_
  refine g_if_ne rfl (by omega) (fun g => ?_) (fun g => ?_)
  · exact absurd h0 g
  · refine g_l 11 rfl rfl ?_
    refine g_p 13 rfl rfl ?_
    refine g_call rfl (c_fail (Or.inr (Or.inl rfl)) h) (fun r J hJ => ?_) (hr := rcv2 rfl)
    obtain ⟨rfl, a, b⟩ := hJ
    exact g_ret rfl rfl ⟨rfl, a, b⟩
theorem c_back_y {n : Nat} (h : CI I v hs (n + 1) ct tx tl) : Ct L (d + 4) k_X7_back [vR 2] I (PA I n (hs n) hs n ct tx tl) := by
  show Go L (d + 4) k_X7_back 0 [some (vR 2)] [] I _
  have h0 := h.2.2.1.1.1
  have hrest := h.2.2
  have h6 := h.2.2.1.1.2.1
  refine g_l 1 rfl rfl ?_
  refine g_fr rfl rfl ⟨⟨by decide, by omega, by decide⟩, by decide⟩ rfl ?_
  refine g_fi rfl rfl ⟨⟨by decide, by omega, by decide⟩, by decide⟩ ?_
  refine g_if_ne rfl (by omega) (fun g => ?_) (fun g => ?_)
  · refine g_l 18 rfl rfl ?_
    refine g_fr rfl rfl ⟨⟨by decide, by omega, by decide⟩, by decide⟩ rfl ?_
    refine g_l 22 rfl rfl ?_
    refine g_fr rfl rfl ⟨⟨by decide, by omega, by decide⟩, by decide⟩ rfl ?_
    refine g_call rfl (c_restore hrest.1.1) (fun r J hJ => ?_) (hr := rcv11 rfl)
    obtain ⟨rfl, hJ1, hJ2, hJ3⟩ := hJ
    refine g_l 29 rfl rfl ?_
    refine g_fr rfl rfl ⟨⟨by decide, by omega, by decide⟩, by decide⟩ rfl ?_
    refine g_fi rfl rfl ⟨⟨by decide, by omega, by decide⟩, by decide⟩ ?_
    rw [hJ1.1]
    refine g_ret rfl rfl ⟨rfl, ⟨hJ2, hrest.1.2 n (by omega), ⟨hJ1, fun k hk => hrest.1.2 k (by omega)⟩, fun j hj => ?_, ?_, ?_, fun j hj => ?_⟩, fun q hq => hJ3 q (by omega) (by omega)⟩
    · rw [hJ3 2 (by omega) (by omega)]
      exact hrest.2.1 j hj
    · exact hrest.2.2.1.fr (by rw [hJ3 83 (by omega) (by omega)]) (hJ3 84 (by omega) (by omega))
    · exact hrest.2.2.2.1.fr (fun q a b => hJ3 q (by omega) (by omega))
    · rw [hJ3 0 (by omega) (by omega)]
      exact hrest.2.2.2.2 j hj
  · exact absurd (show I 11 2 = 0 by omega) (by rw [h0]; omega)
def tdA (v : Nat → Int) (hn : Nat) (ct : Nat → Int) (tl : Nat) (w : Int) : Int := if w = 0 then ct 0 else if w = 1 then ct 1 else if w = 2 then ct 2 else if w = 3 then (tl : Int) else if w = 4 then v 0 else if w = 5 then v 9 else if w = 6 then v 10 else (hn : Int)
def qTold (v : Nat → Int) (hn : Nat) (ct : Nat → Int) (tl : Nat) (w : Int) : Int × Int := if 0 ≤ w ∧ w < 8 then (tdA v hn ct tl w, 0) else (-2, -2)
theorem c_told {w : Int} (h : CI I v hs hn ct tx tl) (hw : rng w) : Ct L (d + 1) k_X7_told [vR 2, vI w] I (PQ I (qTold v hn ct tl w) v hs hn ct tx tl) := by
  have h0 := h.2.2.2.1
  show Go L (d + 1) k_X7_told 0 [some (vR 2), some (vI w)] [] I _
  refine g_l 1 rfl rfl ?_
  unfold qTold
  by_cases hc : 0 ≤ w ∧ w < 8
  · rw [if_pos hc]
    have hwc : w = 0 ∨ w = 1 ∨ w = 2 ∨ w = 3 ∨ w = 4 ∨ w = 5 ∨ w = 6 ∨ w = 7 := by omega
    rcases hwc with rfl | rfl | rfl | rfl | rfl | rfl | rfl | rfl
    · refine g_ts 48 rfl (by decide) (by decide) ?_
      refine g_l 49 rfl rfl ?_
      refine g_fi rfl rfl ⟨⟨by decide, by omega, by decide⟩, by decide⟩ ?_
      exact g_ret rfl rfl ⟨by rw [h0 0 (by omega)]; rfl, h, FrC.rf⟩
    · refine g_ts 53 rfl (by decide) (by decide) ?_
      refine g_l 54 rfl rfl ?_
      refine g_fi rfl rfl ⟨⟨by decide, by omega, by decide⟩, by decide⟩ ?_
      exact g_ret rfl rfl ⟨by rw [h0 1 (by omega)]; rfl, h, FrC.rf⟩
    · refine g_ts 58 rfl (by decide) (by decide) ?_
      refine g_l 59 rfl rfl ?_
      refine g_fi rfl rfl ⟨⟨by decide, by omega, by decide⟩, by decide⟩ ?_
      exact g_ret rfl rfl ⟨by rw [h0 2 (by omega)]; rfl, h, FrC.rf⟩
    · refine g_ts 63 rfl (by decide) (by decide) ?_
      refine g_l 64 rfl rfl ?_
      refine g_fr rfl rfl ⟨⟨by decide, by omega, by decide⟩, by decide⟩ rfl ?_
      refine g_fi rfl rfl ⟨⟨by decide, by omega, by decide⟩, by decide⟩ ?_
      exact g_ret rfl rfl ⟨by rw [h.2.2.2.2.1.1]; rfl, h, FrC.rf⟩
    · refine g_ts 71 rfl (by decide) (by decide) ?_
      refine g_l 72 rfl rfl ?_
      refine g_fr rfl rfl ⟨⟨by decide, by omega, by decide⟩, by decide⟩ rfl ?_
      refine g_fi rfl rfl ⟨⟨by decide, by omega, by decide⟩, by decide⟩ ?_
      exact g_ret rfl rfl ⟨by rw [h.1.1]; rfl, h, FrC.rf⟩
    · refine g_ts 79 rfl (by decide) (by decide) ?_
      refine g_l 80 rfl rfl ?_
      refine g_fr rfl rfl ⟨⟨by decide, by omega, by decide⟩, by decide⟩ rfl ?_
      refine g_fr rfl rfl ⟨⟨by decide, by omega, by decide⟩, by decide⟩ rfl ?_
      refine g_fi rfl rfl ⟨⟨by decide, by omega, by decide⟩, by decide⟩ ?_
      exact g_ret rfl rfl ⟨by rw [h.1.2.2.1]; rfl, h, FrC.rf⟩
    · refine g_ts 90 rfl (by decide) (by decide) ?_
      refine g_l 91 rfl rfl ?_
      refine g_fr rfl rfl ⟨⟨by decide, by omega, by decide⟩, by decide⟩ rfl ?_
      refine g_fr rfl rfl ⟨⟨by decide, by omega, by decide⟩, by decide⟩ rfl ?_
      refine g_fi rfl rfl ⟨⟨by decide, by omega, by decide⟩, by decide⟩ ?_
      exact g_ret rfl rfl ⟨by rw [h.1.2.2.2.1]; rfl, h, FrC.rf⟩
    · refine g_ts 101 rfl (by decide) (by decide) ?_
      refine g_l 102 rfl rfl ?_
      refine g_fr rfl rfl ⟨⟨by decide, by omega, by decide⟩, by decide⟩ rfl ?_
      refine g_fi rfl rfl ⟨⟨by decide, by omega, by decide⟩, by decide⟩ ?_
      exact g_ret rfl rfl ⟨by rw [h.2.2.1.1.1]; rfl, h, FrC.rf⟩
  · rw [if_neg hc]
    refine g_ts 109 rfl hw (by rw [if_pos (by omega)]; rfl) ?_
    refine g_l 110 rfl rfl ?_
    refine g_p 112 rfl rfl ?_
    refine g_call rfl (c_fail (Or.inl rfl) h) (fun r J hJ => ?_) (hr := rcv2 rfl)
    obtain ⟨rfl, a, b⟩ := hJ
    exact g_ret rfl rfl ⟨rfl, a, b⟩
end JN
