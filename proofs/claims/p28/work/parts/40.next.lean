/-! EdgeJoin: next, joins -/
def RB (B C : Int × (Nat → Int)) : Prop := B.1 = C.1 ∧ (B.1 < 1000 → B.2 = C.2)
theorem fsV_rel {ok : Nat → Prop} {add : Nat → Int} {cost : Int} {child : Nat → Int → Int × (Nat → Int) → Int × (Nat → Int)} (hc : ∀ v c B C, RB B C → RB (child v c B) (child v c C)) : ∀ (m v : Nat) (B C : Int × (Nat → Int)), RB B C → RB (fsV ok add cost child m v B) (fsV ok add cost child m v C)
  | 0, _, _, _, h => h
  | m + 1, v, B, C, h => by
    unfold fsV
    refine fsV_rel hc m (v + 1) _ _ ?_
    by_cases hh : ok v ∧ cost + add v < B.1
    · rw [if_pos hh, if_pos (by rw [← h.1]; exact hh)]
      exact hc _ _ _ _ h
    · rw [if_neg hh, if_neg (by rw [← h.1]; exact hh)]
      exact h
theorem fs_rel {f : Nat → Int} {n : Nat} {w tu fr : Int} : ∀ (r p : Nat) (row : Nat → Int) (cost : Int) (B C : Int × (Nat → Int)), RB B C → RB (fs f n w tu fr r p row cost B) (fs f n w tu fr r p row cost C)
  | 0, _, _, _, _, _, _ => ⟨rfl, fun _ => rfl⟩
  | r + 1, p, row, cost, B, C, h => by
    unfold fs
    exact fsV_rel (fun v c B C h => fs_rel r (p + 1) (zup row p v) c B C h) _ _ _ _ h
noncomputable def jnB (v : Nat → Int) (w tu fr : Int) : Int × (Nat → Int) := fs (fC v) (fN v) w tu fr (fN v) 0 (fun _ => 0) 0 (1000, fun _ => 0)
noncomputable def jnA (v : Nat → Int) (w tu fr p : Int) : Int := if (jnB v w tu fr).1 < 1000 then (if p = -1 then (jnB v w tu fr).1 else (jnB v w tu fr).2 p.toNat) else -5
abbrev jnP (w h tu fr p : Int) : Prop := (1 ≤ w ∧ w ≤ 8) ∧ (1 ≤ h ∧ h ≤ 8) ∧ (tu = 0 ∨ tu = 1) ∧ (fr = 0 ∨ fr = 1) ∧ (p = -1 ∨ (0 ≤ p ∧ p < w * h))
noncomputable def qJoins (v : Nat → Int) (w h tu fr p : Int) : Int × Int := if jnP w h tu fr p then (if w * h ≠ v 0 ∨ (tu = 1 ∧ 4 < v 0) then (-3, -3) else (jnA v w tu fr p, 0)) else (-2, -2)
section NX
variable {L d : Nat} {I : zI} {v : Nat → Int} {hs : Nat → Nat → Int} {hn : Nat} {ct tx : Nat → Int} {tl : Nat}
theorem c_findContent {p tu : Int} (h : CI I v hs hn ct tx tl) (hS : SDat I (v 0).toNat (vcel v)) (hp : 0 ≤ p ∧ p < fS v) (ht : tu = 0 ∨ tu = 1) : Ev L (d + 3) k_X7_findContentFor [vR 2, vI p, vI tu] I (some (vI (fcF v p tu (4 * fN v) 0 1000 (-1)).2)) I := by
  have hfN := fN_le h.2.1
  have hf := fS_rng h.2.1
  have key : ∀ (m c : Nat) (bi b : Int) (o6 : Option zV), c + m = 4 * fN v → (c % 4 = 0 ∨ tu = 1) → (0 ≤ bi ∧ bi ≤ 1000) → Go L (d + 3) k_X7_findContentFor 10 [some (vR 2), some (vI p), some (vI tu), some (vI bi), some (vI b), some (vI c), o6] [] I (fun r J => r = some (vI (fcF v p tu m c bi b).2) ∧ J = I) := by
    intro m
    induction m using Nat.strongRecOn with
    | ind m ih =>
      intro c bi b o6 hc hct hbi
      by_cases hm : m = 0
      · subst hm
        refine g_l 12 rfl rfl ?_
        refine g_p 13 rfl rfl ?_
        refine g_l 14 rfl rfl ?_
        refine g_fr rfl rfl ⟨⟨by decide, by omega, by decide⟩, by decide⟩ rfl ?_
        refine g_fi rfl rfl ⟨⟨by decide, by omega, by decide⟩, by decide⟩ ?_
        refine g_p 21 rfl rfl ?_
        rw [h.1.1]
        refine g_ic_ge rfl (by omega) (by omega) (fun g => ?_) (fun g => ?_)
        · refine g_l 93 rfl rfl ?_
          exact g_ret rfl rfl ⟨rfl, rfl⟩
        · exact absurd g (by omega)
      · obtain ⟨m', rfl⟩ : ∃ m', m = m' + 1 := ⟨m - 1, by omega⟩
        have ha := adA_rng v p c
        have step : ∀ (bi2 b2 : Int) (o6 : Option zV), (0 ≤ bi2 ∧ bi2 ≤ 1000) → fcF v p tu (m' + 1) c bi b = fcF v p tu m' (c + 1) bi2 b2 → Go L (d + 3) k_X7_findContentFor 74 [some (vR 2), some (vI p), some (vI tu), some (vI bi2), some (vI b2), some (vI c), o6] [] I (fun r J => r = some (vI (fcF v p tu (m' + 1) c bi b).2) ∧ J = I) := by
          intro bi2 b2 o6 hb2 e
          rw [e]
          refine g_l 76 rfl rfl ?_
          refine g_l 77 rfl rfl ?_
          refine g_if_eq rfl (by omega) (fun g => ?_) (fun g => ?_)
          · have hm3 : m' = (m' - 3) + 3 := by omega
            rw [hm3, fcF_skip 3 _ _ _ _ (fun i hi z => by omega)]
            refine g_p 85 rfl rfl ?_
            refine g_p 86 rfl rfl ?_
            refine g_l 88 rfl rfl ?_
            refine g_goto rfl ?_
            exact ih (m' - 3) (by omega) (c + 1 + 3) bi2 b2 o6 (by omega) (by omega) hb2
          · refine g_p 81 rfl rfl ?_
            refine g_goto rfl ?_
            refine g_p 86 rfl rfl ?_
            refine g_l 88 rfl rfl ?_
            refine g_goto rfl ?_
            exact ih m' (by omega) (c + 1) bi2 b2 o6 (by omega) (by omega) hb2
        have hro := h.1.ro h.2.1
        refine g_l 12 rfl rfl ?_
        refine g_p 13 rfl rfl ?_
        refine g_l 14 rfl rfl ?_
        refine g_fr rfl rfl ⟨⟨by decide, by omega, by decide⟩, by decide⟩ rfl ?_
        refine g_fi rfl rfl ⟨⟨by decide, by omega, by decide⟩, by decide⟩ ?_
        refine g_p 21 rfl rfl ?_
        rw [h.1.1]
        refine g_ic_ge rfl (by omega) (by omega) (fun g => ?_) (fun g => ?_)
        · exact absurd g (by omega)
        · refine g_l 25 rfl rfl ?_
          refine g_fr rfl rfl ⟨⟨by decide, by omega, by decide⟩, by decide⟩ rfl ?_
          refine g_fr rfl rfl ⟨⟨by decide, by omega, by decide⟩, by decide⟩ rfl ?_
          refine g_l 33 rfl rfl ?_
          refine g_p 34 rfl rfl ?_
          refine g_div 35 rfl (by omega) (by omega) ?_
          have ec : (c : Int) / 4 = ((c / 4 : Nat) : Int) := by omega
          rw [ec]
          refine g_callE rfl (c_place h.1 h.2.1 (by omega)) ?_ (hr := rcv5 rfl)
          have hpl := pl_rng (c := vc v) (n := fS v) (k := ((c / 4 : Nat) : Int)) (by omega)
          refine g_p 39 rfl rfl ?_
          refine g_ic_ne rfl (by omega) (by omega) (fun g1 => ?_) (fun g1 => ?_)
          · refine step bi b o6 hbi ?_
            rw [fcF, if_neg (fun z => g1 z.1.2)]
          · have g1 : frP v ((c / 4 : Nat) : Int) := by show pl _ _ _ = -1; omega
            have hfree := plF_none (c := vc v) (k := ((c / 4 : Nat) : Int)) _ 0 g1
            refine g_l 43 rfl rfl ?_
            refine g_fr rfl rfl ⟨⟨by decide, by omega, by decide⟩, by decide⟩ rfl ?_
            refine g_l 47 rfl rfl ?_
            refine g_fr rfl rfl ⟨⟨by decide, by omega, by decide⟩, by decide⟩ rfl ?_
            refine g_fr rfl rfl ⟨⟨by decide, by omega, by decide⟩, by decide⟩ rfl ?_
            refine g_l 54 rfl rfl ?_
            refine g_l 56 rfl rfl ?_
            refine g_callE rfl (c_gain (p := p) (x := (c : Int)) h.1 h.2.1 hS hp ⟨by omega, by omega⟩ (fun j hj hj1 => ?_)) ?_ (hr := rcv37 rfl)
            · have := hfree j (by omega) (by omega)
              unfold vc at this
              omega
            · refine g_l 61 rfl rfl ?_
              refine g_l 63 rfl rfl ?_
              refine g_l 64 rfl rfl ?_
              refine g_ic_ge rfl (by omega) (by omega) (fun g2 => ?_) (fun g2 => ?_)
              · refine step bi b _ hbi ?_
                rw [fcF, if_neg (fun z => absurd z.2 (by omega))]
              · refine g_l 69 rfl rfl ?_
                refine g_l 70 rfl rfl ?_
                refine g_l 72 rfl rfl ?_
                refine g_l 74 rfl rfl ?_
                refine step _ _ _ (by omega) ?_
                rw [fcF, if_pos ⟨⟨hct, g1⟩, by omega⟩]
  show Go L (d + 3) k_X7_findContentFor 0 [some (vR 2), some (vI p), some (vI tu), none, none, none, none] [] I _
  refine g_p 3 rfl rfl ?_
  refine g_l 4 rfl rfl ?_
  refine g_p 5 rfl rfl ?_
  refine g_l 7 rfl rfl ?_
  refine g_p 8 rfl rfl ?_
  refine g_l 10 rfl rfl ?_
  exact key (4 * fN v) 0 1000 (-1) none (by omega) (Or.inl rfl) (by omega)
theorem c_next {tu w : Int} (h : CI I v hs hn ct tx tl) (ht : rng tu) (hw : rng w) : Ct L (d + 5) k_X7_next [vR 2, vI tu, vI w] I (PQ I (qNext v tu w) v hs hn ct tx tl) := by
  have hfN := fN_le h.2.1
  have hf := fS_rng h.2.1
  have b1 := b2i_r (tu = 0 ∨ tu = 1)
  have b2 := b2i_r (0 ≤ w ∧ w < 3)
  have bad : ¬ ((tu = 0 ∨ tu = 1) ∧ 0 ≤ w ∧ w < 3) → Go L (d + 5) k_X7_next 15 [some (vR 2), some (vI tu), some (vI w), none, none, none, none, none, none] [] I (PQ I (qNext v tu w) v hs hn ct tx tl) := fun hno => by
    refine g_l 16 rfl rfl ?_
    refine g_p 18 rfl rfl ?_
    unfold qNext
    rw [if_neg hno]
    refine g_call rfl (c_fail (Or.inl rfl) h) (fun r J hJ => ?_) (hr := rcv2 rfl)
    obtain ⟨rfl, a, b⟩ := hJ
    exact g_ret rfl rfl ⟨rfl, a, b⟩
  show Go L (d + 5) k_X7_next 0 [some (vR 2), some (vI tu), some (vI w), none, none, none, none, none, none] [] I _
  refine g_l 1 rfl rfl ?_
  refine g_callE rfl (c_isFlag ht) ?_
  refine g_if_eq rfl (by omega) (fun g1 => ?_) (fun g1 => ?_)
  · exact bad (fun z => b2i_0 g1 z.1)
  · have g1 := b2i_1 g1
    refine g_l 8 rfl rfl ?_
    refine g_p 9 rfl rfl ?_
    refine g_callE rfl (c_isWithin hw (by omega)) ?_
    refine g_if_ne rfl (by omega) (fun g2 => ?_) (fun g2 => ?_)
    · have g2 := b2i_1 g2
      unfold qNext
      rw [if_pos ⟨g1, g2⟩]
      refine g_l 23 rfl rfl ?_
      refine g_fr rfl rfl ⟨⟨by decide, by omega, by decide⟩, by decide⟩ rfl ?_
      refine g_l 27 rfl rfl ?_
      refine g_fr rfl rfl ⟨⟨by decide, by omega, by decide⟩, by decide⟩ rfl ?_
      refine g_call rfl (c_follow (d := d + 1) h.2.2.2.2.2.1 h.1 h.2.1 h.2.2.2.2.2.2) (fun r J hJ => ?_) (hr := rcv37 rfl)
      obtain ⟨rfl, hS, hF⟩ := hJ
      have hC : CI J v hs hn ct tx tl := ⟨h.1.fq (fun q a b => hF q (by omega)), h.2.1, h.2.2.side (hS.ok h.2.1) hF⟩
      have hro := hC.1.ro hC.2.1
      have he := e5 hC.1
      refine g_p 36 rfl rfl ?_
      refine g_l 37 rfl rfl ?_
      refine g_p 38 rfl rfl ?_
      refine g_l 40 rfl rfl ?_
      refine g_p 41 rfl rfl ?_
      refine g_l 43 rfl rfl ?_
      refine g_p 44 rfl rfl ?_
      refine g_l 46 rfl rfl ?_
      have loop : ∀ (m p : Nat) (bi bp bc : Int) (o7 o8 : Option zV), (p : Int) + m = fS v → (0 ≤ bi ∧ bi ≤ 1000) → (-1 ≤ bp ∧ bp ≤ 8) → nxF v tu m p bi bp bc = nxF v tu (fS v).toNat 0 1000 (-1) (-1) → Go L (d + 5) k_X7_next 46 [some (vR 2), some (vI tu), some (vI w), some (vI bi), some (vI bp), some (vI bc), some (vI p), o7, o8] [] J (PQ I (nxA v tu w, 0) v hs hn ct tx tl) := by
        intro m
        induction m with
        | zero =>
          intro p bi bp bc o7 o8 hp hbi hbp hnx
          refine g_l 48 rfl rfl ?_
          refine g_l 49 rfl rfl ?_
          refine g_fr rfl rfl ⟨⟨by decide, by omega, by decide⟩, by decide⟩ rfl ?_
          refine g_fr rfl rfl ⟨⟨by decide, by omega, by decide⟩, by decide⟩ rfl ?_
          refine g_callE rfl (c_size IsR5) ?_ (hr := rcv5 rfl)
          rw [he.2]
          have hnx : (bi, bp, bc) = nxF v tu (fS v).toNat 0 1000 (-1) (-1) := hnx
          have hFC : FrC I J := fun q hq => hF q (by omega)
          refine g_ic_ge rfl (by omega) (by omega) (fun q => ?_) (fun q => ?_)
          · unfold nxA
            rw [← hnx]
            refine g_l 155 rfl rfl ?_
            refine g_p 156 rfl rfl ?_
            refine g_ic_eq rfl (by omega) (by omega) (fun q1 => ?_) (fun q1 => ?_)
            · rw [if_pos (Or.inl q1)]
              refine g_l 165 rfl rfl ?_
              exact g_ret rfl rfl ⟨rfl, hC, hFC⟩
            · refine g_l 160 rfl rfl ?_
              refine g_if_ne rfl (by omega) (fun q2 => ?_) (fun q2 => ?_)
              · rw [if_neg (fun z => Or.elim z q1 q2)]
                refine g_l 167 rfl rfl ?_
                refine g_p 168 rfl rfl ?_
                refine g_ic_ne rfl (by omega) (by omega) (fun q3 => ?_) (fun q3 => ?_)
                · rw [if_neg q3]
                  refine g_l 177 rfl rfl ?_
                  exact g_ret rfl rfl ⟨rfl, hC, hFC⟩
                · rw [if_pos (Classical.not_not.mp q3)]
                  refine g_l 173 rfl rfl ?_
                  refine g_goto rfl ?_
                  exact g_ret rfl rfl ⟨rfl, hC, hFC⟩
              · rw [if_pos (Or.inr (Classical.not_not.mp q2))]
                refine g_l 165 rfl rfl ?_
                exact g_ret rfl rfl ⟨rfl, hC, hFC⟩
          · exact absurd q (by omega)
        | succ m ih =>
          intro p bi bp bc o7 o8 hp hbi hbp hnx
          have hpS : (p : Int) < fS v := by omega
          obtain ⟨b, hb, hbi2, hev⟩ := c_canGrowAt (L := L) (d := d + 2) (a := 5) (p := p) IsR5 hro.1 hro.2 (by rw [he.2]; exact hpS)
          have hcg : b = 1 ↔ cgP v p := by
            rw [hbi2]
            have h1 : J 6 p = v (11 + p) := e6 hC.1 p (by omega)
            have h2 := bsF_eq (c := J 6) (c' := vc v) (w := v 9) (n := fS v) (p := (p : Int)) hf.2.2 ⟨by omega, hpS⟩ hf.2.1 (by omega) (e6 hC.1) 4 0
            have h3 : cn (J 6) (fS v) = cn (vc v) (fS v) := cnF_eq _ _ (fun j a b => e6 hC.1 j (by omega))
            show J 6 p = -1 ∧ (bsF (J 6) (J 5 0) (J 5 0 * J 5 1) p 4 0 ∨ cn (J 6) (J 5 0 * J 5 1) = 0) ↔ _
            rw [he.2, he.1, h1, h2, h3]
          have ha := adA_rng v p (ctA v tu p)
          have hic : 0 ≤ icA v tu p ∧ icA v tu p ≤ 1000 := by
            unfold icA
            split <;> omega
          have hfr := fcF_rng (v := v) (p := (p : Int)) (tu := tu) (4 * fN v) 0 1000 (-1) (by omega)
          have hctr : -1 ≤ ctA v tu p ∧ ctA v tu p < 32 := by
            unfold ctA
            split <;> omega
          have fin : ∀ (o8 : Option zV), Go L (d + 5) k_X7_next 128 [some (vR 2), some (vI tu), some (vI w), some (vI bi), some (vI bp), some (vI bc), some (vI p), some (vI (ctA v tu p)), o8] [vI (icA v tu p)] J (PQ I (nxA v tu w, 0) v hs hn ct tx tl) := fun o8 => by
            refine g_l 130 rfl rfl ?_
            refine g_l 132 rfl rfl ?_
            refine g_l 133 rfl rfl ?_
            refine g_ic_ge rfl (by omega) (by omega) (fun q => ?_) (fun q => ?_)
            · refine g_l 150 rfl rfl ?_
              refine g_goto rfl ?_
              refine ih (p + 1) bi bp bc _ _ (by omega) hbi hbp ?_
              rw [← hnx, nxF, if_neg (by omega)]
            · refine g_l 138 rfl rfl ?_
              refine g_l 139 rfl rfl ?_
              refine g_l 141 rfl rfl ?_
              refine g_l 143 rfl rfl ?_
              refine g_l 145 rfl rfl ?_
              refine g_l 147 rfl rfl ?_
              refine g_l 150 rfl rfl ?_
              refine g_goto rfl ?_
              refine ih (p + 1) _ _ _ _ _ (by omega) hic (by omega) ?_
              rw [← hnx, nxF, if_pos (by omega)]
          have mid : ∀ (o7 : Option zV), Go L (d + 5) k_X7_next 96 [some (vR 2), some (vI tu), some (vI w), some (vI bi), some (vI bp), some (vI bc), some (vI p), o7, o8] [vI (ctA v tu p)] J (PQ I (nxA v tu w, 0) v hs hn ct tx tl) := fun o7 => by
            refine g_l 98 rfl rfl ?_
            refine g_l 100 rfl rfl ?_
            refine g_p 101 rfl rfl ?_
            refine g_ic_ne rfl (by omega) (by omega) (fun q => ?_) (fun q => ?_)
            · have e : icA v tu p = adA v p (ctA v tu p) := if_neg q
              have hct : 0 ≤ ctA v tu p ∧ ctA v tu p < 4 * fN v ∧ frP v (ctA v tu p / 4) := by
                unfold ctA at q ⊢
                split
                · rename_i hh
                  rw [if_pos hh] at q
                  omega
                · rename_i hh
                  rw [if_neg hh] at q
                  exact absurd rfl q
              have hfree := plF_none (c := vc v) (k := ctA v tu p / 4) _ 0 hct.2.2
              have hfin := fin o8
              rw [e] at hfin
              refine g_l 111 rfl rfl ?_
              refine g_fr rfl rfl ⟨⟨by decide, by omega, by decide⟩, by decide⟩ rfl ?_
              refine g_l 115 rfl rfl ?_
              refine g_fr rfl rfl ⟨⟨by decide, by omega, by decide⟩, by decide⟩ rfl ?_
              refine g_fr rfl rfl ⟨⟨by decide, by omega, by decide⟩, by decide⟩ rfl ?_
              refine g_l 123 rfl rfl ?_
              refine g_l 125 rfl rfl ?_
              refine g_callE rfl (c_gain (d := d + 2) (p := p) (x := ctA v tu p) hC.1 hC.2.1 hS ⟨by omega, hpS⟩ ⟨by omega, by omega⟩ (fun j hj hj1 => ?_)) ?_ (hr := rcv37 rfl)
              · have := hfree j (by omega) (by omega)
                unfold vc at this
                omega
              · exact hfin
            · have q : ctA v tu p = -1 := by omega
              have e : icA v tu p = 1000 := if_pos q
              have hfin := fin o8
              rw [e] at hfin
              refine g_p 107 rfl rfl ?_
              refine g_goto rfl ?_
              exact hfin
          refine g_l 48 rfl rfl ?_
          refine g_l 49 rfl rfl ?_
          refine g_fr rfl rfl ⟨⟨by decide, by omega, by decide⟩, by decide⟩ rfl ?_
          refine g_fr rfl rfl ⟨⟨by decide, by omega, by decide⟩, by decide⟩ rfl ?_
          refine g_callE rfl (c_size IsR5) ?_ (hr := rcv5 rfl)
          rw [he.2]
          refine g_ic_ge rfl (by omega) (by omega) (fun q => ?_) (fun q => ?_)
          · exact absurd q (by omega)
          · refine g_l 62 rfl rfl ?_
            refine g_fr rfl rfl ⟨⟨by decide, by omega, by decide⟩, by decide⟩ rfl ?_
            refine g_fr rfl rfl ⟨⟨by decide, by omega, by decide⟩, by decide⟩ rfl ?_
            refine g_l 70 rfl rfl ?_
            refine g_callE rfl hev ?_ (hr := rcv5 rfl)
            refine g_if_eq rfl (by omega) (fun q2 => ?_) (fun q2 => ?_)
            · have e : ctA v tu p = -1 := by
                unfold ctA
                exact if_neg (fun z => absurd (hcg.mpr z) (by omega))
              have hmid := mid o7
              rw [e] at hmid
              refine g_p 96 rfl rfl ?_
              exact hmid
            · have hcgp : cgP v p := hcg.mp (by omega)
              have e : ctA v tu p = (fcF v p tu (4 * fN v) 0 1000 (-1)).2 := by
                unfold ctA
                exact if_pos hcgp
              have hmid := mid o7
              rw [e] at hmid
              have call : Go L (d + 5) k_X7_next 89 [some (vR 2), some (vI tu), some (vI w), some (vI bi), some (vI bp), some (vI bc), some (vI p), o7, o8] [vI tu, vI p, vR 2] J (PQ I (nxA v tu w, 0) v hs hn ct tx tl) := by
                refine g_callE rfl (c_findContent (d := d + 1) (p := (p : Int)) hC hS ⟨by omega, hpS⟩ g1) ?_ (hr := rcv2 rfl)
                refine g_goto rfl ?_
                exact hmid
              refine g_l 77 rfl rfl ?_
              refine g_l 79 rfl rfl ?_
              refine g_l 80 rfl rfl ?_
              refine g_p 81 rfl rfl ?_
              refine g_ic_ne rfl (by omega) (by omega) (fun q3 => ?_) (fun q3 => ?_)
              · have : tu = 0 := by omega
                subst this
                refine g_p 89 rfl rfl ?_
                exact call
              · have : tu = 1 := by omega
                subst this
                refine g_p 85 rfl rfl ?_
                refine g_goto rfl ?_
                exact call
      exact loop (fS v).toNat 0 1000 (-1) (-1) none none (by omega) (by omega) (by omega) rfl
    · exact bad (fun z => b2i_0 (show b2i (0 ≤ w ∧ w < 3) = 0 by omega) z.2)
end NX
