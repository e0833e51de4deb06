/-! EdgeJoin: changes -/
/-- an answer with a refusal's code (0: none) -/
def rf0 (ct : Nat → Int) (w : Int) : Nat → Int := if w = 0 then ct else rfs ct w
theorem r_2 : rng (-2) := by decide
theorem r_3 : rng (-3) := by decide
theorem r_4 : rng (-4) := by decide
section CH
variable {L d : Nat} {I : zI} {v : Nat → Int} {hs : Nat → Nat → Int} {hn : Nat} {ct tx : Nat → Int} {tl : Nat}
def PQ (I : zI) (q : Int × Int) (v : Nat → Int) (hs : Nat → Nat → Int) (hn : Nat) (ct tx : Nat → Int) (tl : Nat) : Option zV → zI → Prop := fun r J => r = some (vI q.1) ∧ CI J v hs hn (rf0 ct q.2) tx tl ∧ FrC I J
/-- behind a change -/
def PZ (I : zI) (z : Int × (Nat → Int)) (v : Nat → Int) (hs : Nat → Nat → Int) (hn : Nat) (ct tx : Nat → Int) (tl : Nat) : Option zV → zI → Prop := fun r J => r = some (vI z.1) ∧ CI J z.2 (mhs z.1 v hs hn) (mhn z.1 hn) (mct z.1 ct) tx tl ∧ FrC I J
theorem c_fail {w : Int} (hw : why3 w) (h : CI I v hs hn ct tx tl) : Ct L d k_X7_fail [vR 2, vI w] I (fun r J => r = some (vI w) ∧ CI J v hs hn (rf0 ct w) tx tl ∧ FrC I J) := by
  refine Go.mono (c_fail0 hw) (fun r J hJ => ?_)
  obtain ⟨rfl, rfl⟩ := hJ
  refine ⟨rfl, ?_, fun q hq => zup2_ne (by omega)⟩
  have e : rf0 ct w = rfs ct w := if_neg (by omega)
  rw [e]
  exact ⟨h.1.fq (fun q a b => zup2_ne (by omega)), h.2.1, h.2.2.rfs hw⟩
theorem c_endChange {z : Int × (Nat → Int)} (hz : z.1 < 0 → z.2 = v ∧ why3 z.1) (hzr : rng z.1) (h3 : StAt I 3 z.2) (ho : OKv z.2) (h7 : StAt I 7 v) (hov : OKv v) (hr : CR I hs hn ct tx tl) : Ct L (d + 4) k_X7_endChange [vR 2, vI z.1] I (PZ I z v hs hn ct tx tl) := by
  show Go L (d + 4) k_X7_endChange 0 [some (vR 2), some (vI z.1)] [] I _
  refine g_l 1 rfl rfl ?_
  refine g_if_ge rfl (by omega) (fun g => ?_) (fun g => ?_)
  · refine g_l 11 rfl rfl ?_
    refine g_fr rfl rfl ⟨⟨by decide, by omega, by decide⟩, by decide⟩ rfl ?_
    refine g_l 15 rfl rfl ?_
    refine g_fr rfl rfl ⟨⟨by decide, by omega, by decide⟩, by decide⟩ rfl ?_
    refine g_call rfl (c_keep (Or.inr rfl) hr.1.1 h7) (fun r J hJ => ?_) (hr := rcv11 rfl)
    obtain ⟨rfl, hJ1, hJ2⟩ := hJ
    refine g_l 22 rfl rfl ?_
    refine g_ret rfl rfl ⟨rfl, ⟨h3.fq (fun q a b => hJ2 q (by omega)), ho, ⟨?_, ?_⟩, fun j hj => ?_, ?_, ?_, fun j hj => ?_⟩, fun q hq => hJ2 q (by omega)⟩
    · unfold mhs mhn
      rw [if_neg (by omega), if_neg (by omega)]
      exact hJ1
    · have e1 : mhs z.1 v hs hn = hpush hs hn v := if_neg (by omega)
      have e2 : mhn z.1 hn = (if hn < 6 then hn + 1 else 6) := if_neg (by omega)
      rw [e1, e2]
      exact hpush_ok hr.1.2 hov hr.1.1.2.1
    · rw [hJ2 2 (by omega)]
      unfold mct
      rw [if_neg (by omega)]
      exact hr.2.1 j hj
    · exact hr.2.2.1.fr (by rw [hJ2 83 (by omega)]) (hJ2 84 (by omega))
    · exact hr.2.2.2.1.fr (fun q a b => hJ2 q (by omega))
    · rw [hJ2 0 (by omega)]
      exact hr.2.2.2.2 j hj
  · have hzz := hz (by omega)
    refine g_l 5 rfl rfl ?_
    refine g_l 6 rfl rfl ?_
    refine g_call rfl (c_fail hzz.2 ⟨h3, ho, hr⟩) (fun r J hJ => ?_) (hr := rcv2 rfl)
    obtain ⟨rfl, hJ1, hJ2⟩ := hJ
    refine g_ret rfl rfl ⟨rfl, ?_, hJ2⟩
    unfold mhs mhn mct
    rw [if_pos (by omega), if_pos (by omega), if_pos (by omega)]
    have e : rf0 ct z.1 = rfs ct z.1 := if_neg (by omega)
    rw [e] at hJ1
    exact hJ1
theorem c_fresh (h : CI I v hs hn ct tx tl) : Ct L (d + 4) k_X7_freshSides [vR 2] I (fun r J => r = some (vR 37) ∧ CI J v hs hn ct tx tl ∧ SDat J (v 0).toNat (vcel v) ∧ ∀ q, (q < 37 ∨ 75 ≤ q) → J q = I q) := by
  obtain ⟨h1, h2, h3⟩ := h
  show Go L (d + 4) k_X7_freshSides 0 [some (vR 2)] [] I _
  refine g_l 1 rfl rfl ?_
  refine g_fr rfl rfl ⟨⟨by decide, by omega, by decide⟩, by decide⟩ rfl ?_
  refine g_l 5 rfl rfl ?_
  refine g_fr rfl rfl ⟨⟨by decide, by omega, by decide⟩, by decide⟩ rfl ?_
  refine g_call rfl (c_follow h3.2.2.2.1 h1 h2 h3.2.2.2.2) (fun r J hJ => ?_) (hr := rcv37 rfl)
  obtain ⟨rfl, hJ1, hJ2⟩ := hJ
  refine g_l 12 rfl rfl ?_
  refine g_fr rfl rfl ⟨⟨by decide, by omega, by decide⟩, by decide⟩ rfl ?_
  exact g_ret rfl rfl ⟨rfl, ⟨h1.fq (fun q a b => hJ2 q (by omega)), h2, h3.side (hJ1.ok h2) hJ2⟩, hJ1, hJ2⟩
/-- the start of a change: the state is kept as it was -/
theorem c_before (h : CI I v hs hn ct tx tl) : Ct L (d + 2) k_X5_copyFrom [vR 7, vR 3] I (fun r J => r = none ∧ StAt J 7 v ∧ CI J v hs hn ct tx tl ∧ FrC I J) := by
  refine Go.mono (c_scopy St7 St3 (by decide)) (fun r J hJ => ?_)
  obtain ⟨h1, h2, h3⟩ := hJ
  refine ⟨h1, h2 v h.1, ⟨h.1.fq (fun q a b => h3 q (by omega)), h.2.1, h.2.2.fr (fun q hq => h3 q (by omega))⟩, fun q hq => h3 q (by omega)⟩
theorem c_piece {c : Int} (h : CI I v hs hn ct tx tl) (hc : rng c) : Ct L (d + 5) k_X7_piece [vR 2, vI c] I (PZ I (sAdd v c) v hs hn ct tx tl) := by
  show Go L (d + 5) k_X7_piece 0 [some (vR 2), some (vI c)] [] I _
  refine g_l 1 rfl rfl ?_
  refine g_fr rfl rfl ⟨⟨by decide, by omega, by decide⟩, by decide⟩ rfl ?_
  refine g_l 5 rfl rfl ?_
  refine g_fr rfl rfl ⟨⟨by decide, by omega, by decide⟩, by decide⟩ rfl ?_
  refine g_call rfl (c_before h) (fun r J hJ => ?_) (hr := rcv7 rfl)
  obtain ⟨rfl, h7, hC, hF⟩ := hJ
  refine g_l 12 rfl rfl ?_
  refine g_l 13 rfl rfl ?_
  refine g_fr rfl rfl ⟨⟨by decide, by omega, by decide⟩, by decide⟩ rfl ?_
  refine g_l 17 rfl rfl ?_
  refine g_call rfl (c_addPiece (c := c) St3 hC.1 hC.2.1) (fun r K hK => ?_) (hr := rcv3 rfl)
  obtain ⟨rfl, k1, k2⟩ := hK
  have hz : (sAdd v c).1 < 0 → (sAdd v c).2 = v ∧ why3 (sAdd v c).1 := by
    have := h.2.1.1
    unfold sAdd
    split
    · intro z
      exact absurd z (by show ¬ v 0 < 0; omega)
    · intro _
      exact ⟨rfl, Or.inr (Or.inr rfl)⟩
  have hzr : rng (sAdd v c).1 := by
    have := h.2.1.1
    unfold sAdd
    split
    · show rng (v 0)
      omega
    · exact r_4
  refine g_call rfl (c_endChange hz hzr k1 (ok_add hC.2.1 hc) (h7.fq (fun q a b => k2 q (by omega))) hC.2.1 (hC.2.2.fr (fun q hq => k2 q (by omega)))) (fun r M hM => ?_) (hr := rcv2 rfl)
  obtain ⟨rfl, m1, m2⟩ := hM
  exact g_ret rfl rfl ⟨rfl, m1, fun q hq => by rw [m2 q hq, k2 q (by omega), hF q hq]⟩
theorem c_drops {c : Int} (h : CI I v hs hn ct tx tl) (hc : rng c) : Ct L (d + 5) k_X7_drops [vR 2, vI c] I (PZ I (sDrop v c) v hs hn ct tx tl) := by
  show Go L (d + 5) k_X7_drops 0 [some (vR 2), some (vI c)] [] I _
  refine g_l 1 rfl rfl ?_
  refine g_fr rfl rfl ⟨⟨by decide, by omega, by decide⟩, by decide⟩ rfl ?_
  refine g_l 5 rfl rfl ?_
  refine g_fr rfl rfl ⟨⟨by decide, by omega, by decide⟩, by decide⟩ rfl ?_
  refine g_call rfl (c_before h) (fun r J hJ => ?_) (hr := rcv7 rfl)
  obtain ⟨rfl, h7, hC, hF⟩ := hJ
  refine g_l 12 rfl rfl ?_
  refine g_l 13 rfl rfl ?_
  refine g_fr rfl rfl ⟨⟨by decide, by omega, by decide⟩, by decide⟩ rfl ?_
  refine g_l 17 rfl rfl ?_
  refine g_call rfl (c_dropPiece (p := c) St3 hC.1 hC.2.1 hc) (fun r K hK => ?_) (hr := rcv3 rfl)
  obtain ⟨rfl, k1, k2⟩ := hK
  have hz : (sDrop v c).1 < 0 → (sDrop v c).2 = v ∧ why3 (sDrop v c).1 := by
    unfold sDrop
    split
    · intro z
      exact absurd z (by show ¬ v 0 - 1 < 0; omega)
    · intro _
      exact ⟨rfl, Or.inl rfl⟩
  have hzr : rng (sDrop v c).1 := by
    have := h.2.1.1
    unfold sDrop
    split
    · show rng (v 0 - 1)
      omega
    · exact r_2
  refine g_call rfl (c_endChange hz hzr k1 (ok_drop hC.2.1) (h7.fq (fun q a b => k2 q (by omega))) hC.2.1 (hC.2.2.fr (fun q hq => k2 q (by omega)))) (fun r M hM => ?_) (hr := rcv2 rfl)
  obtain ⟨rfl, m1, m2⟩ := hM
  exact g_ret rfl rfl ⟨rfl, m1, fun q hq => by rw [m2 q hq, k2 q (by omega), hF q hq]⟩
theorem c_table {w g : Int} (h : CI I v hs hn ct tx tl) (hw : rng w) (hg : rng g) : Ct L (d + 5) k_X7_table [vR 2, vI w, vI g] I (PZ I (sTab v w g) v hs hn ct tx tl) := by
  show Go L (d + 5) k_X7_table 0 [some (vR 2), some (vI w), some (vI g)] [] I _
  refine g_l 1 rfl rfl ?_
  refine g_fr rfl rfl ⟨⟨by decide, by omega, by decide⟩, by decide⟩ rfl ?_
  refine g_l 5 rfl rfl ?_
  refine g_fr rfl rfl ⟨⟨by decide, by omega, by decide⟩, by decide⟩ rfl ?_
  refine g_call rfl (c_before h) (fun r J hJ => ?_) (hr := rcv7 rfl)
  obtain ⟨rfl, h7, hC, hF⟩ := hJ
  refine g_l 12 rfl rfl ?_
  refine g_l 13 rfl rfl ?_
  refine g_fr rfl rfl ⟨⟨by decide, by omega, by decide⟩, by decide⟩ rfl ?_
  refine g_l 17 rfl rfl ?_
  refine g_l 18 rfl rfl ?_
  refine g_call rfl (c_layTable (w := w) (h := g) St3 hC.1 hC.2.1 hw hg) (fun r K hK => ?_) (hr := rcv3 rfl)
  obtain ⟨rfl, k1, k2⟩ := hK
  have hcn : 0 ≤ cn (vc v) (v 9 * v 10) ∧ cn (vc v) (v 9 * v 10) ≤ 8 := by
    have := cnF_rng (vc v) (v 9 * v 10).toNat 0
    have := h.2.1.pos
    unfold cn
    omega
  have hz : (sTab v w g).1 < 0 → (sTab v w g).2 = v ∧ why3 (sTab v w g).1 := by
    unfold sTab
    split
    · intro z
      exact absurd z (by show ¬ cn (vc v) (v 9 * v 10) < 0; omega)
    · intro _
      exact ⟨rfl, Or.inl rfl⟩
  have hzr : rng (sTab v w g).1 := by
    unfold sTab
    split
    · show rng (cn (vc v) (v 9 * v 10))
      omega
    · exact r_2
  refine g_call rfl (c_endChange hz hzr k1 (ok_tab hC.2.1) (h7.fq (fun q a b => k2 q (by omega))) hC.2.1 (hC.2.2.fr (fun q hq => k2 q (by omega)))) (fun r M hM => ?_) (hr := rcv2 rfl)
  obtain ⟨rfl, m1, m2⟩ := hM
  exact g_ret rfl rfl ⟨rfl, m1, fun q hq => by rw [m2 q hq, k2 q (by omega), hF q hq]⟩
theorem sTake_ok {p : Int} (ho : OKv v) : ((sTake v p).1 < 0 → (sTake v p).2 = v ∧ why3 (sTake v p).1) ∧ rng (sTake v p).1 := by
  have hpos := ho.pos
  unfold sTake
  split
  · have := ho.2.2.2.1 p.toNat (by omega)
    have := ho.1
    split
    · exact ⟨fun _ => ⟨rfl, Or.inr (Or.inl rfl)⟩, r_3⟩
    · refine ⟨fun z => absurd z (by show ¬ v (11 + p.toNat) / 4 < 0; omega), ?_⟩
      show rng (v (11 + p.toNat) / 4)
      omega
  · exact ⟨fun _ => ⟨rfl, Or.inl rfl⟩, r_2⟩
theorem c_takes {p : Int} (h : CI I v hs hn ct tx tl) (hp : rng p) : Ct L (d + 5) k_X7_takes [vR 2, vI p] I (PZ I (sTake v p) v hs hn ct tx tl) := by
  show Go L (d + 5) k_X7_takes 0 [some (vR 2), some (vI p)] [] I _
  refine g_l 1 rfl rfl ?_
  refine g_fr rfl rfl ⟨⟨by decide, by omega, by decide⟩, by decide⟩ rfl ?_
  refine g_l 5 rfl rfl ?_
  refine g_fr rfl rfl ⟨⟨by decide, by omega, by decide⟩, by decide⟩ rfl ?_
  refine g_call rfl (c_before h) (fun r J hJ => ?_) (hr := rcv7 rfl)
  obtain ⟨rfl, h7, hC, hF⟩ := hJ
  refine g_l 12 rfl rfl ?_
  refine g_l 13 rfl rfl ?_
  refine g_fr rfl rfl ⟨⟨by decide, by omega, by decide⟩, by decide⟩ rfl ?_
  refine g_l 17 rfl rfl ?_
  refine g_call rfl (c_take (p := p) St3 hC.1 hC.2.1 hp) (fun r K hK => ?_) (hr := rcv3 rfl)
  obtain ⟨rfl, k1, k2⟩ := hK
  have hz := sTake_ok (p := p) h.2.1
  refine g_call rfl (c_endChange hz.1 hz.2 k1 (ok_take hC.2.1) (h7.fq (fun q a b => k2 q (by omega))) hC.2.1 (hC.2.2.fr (fun q hq => k2 q (by omega)))) (fun r M hM => ?_) (hr := rcv2 rfl)
  obtain ⟨rfl, m1, m2⟩ := hM
  exact g_ret rfl rfl ⟨rfl, m1, fun q hq => by rw [m2 q hq, k2 q (by omega), hF q hq]⟩
theorem sMk_ok {s w g tu : Int} : ((sMk v s w g tu).1 < 0 → (sMk v s w g tu).2 = v ∧ why3 (sMk v s w g tu).1) ∧ rng (sMk v s w g tu).1 := by
  unfold sMk
  split
  · rename_i hk
    obtain ⟨wn, gn, rfl, rfl, w1, h1, n1, n8⟩ := tsz_nat hk.2.1
    have en : (wn : Int) * (gn : Int) = ((wn * gn : Nat) : Int) := (Int.natCast_mul _ _).symm
    refine ⟨fun z => absurd z (by show ¬ (wn : Int) * (gn : Int) < 0; omega), ?_⟩
    show rng ((wn : Int) * (gn : Int))
    omega
  · exact ⟨fun _ => ⟨rfl, Or.inl rfl⟩, r_2⟩
theorem c_makes {s w g tu : Int} (h : CI I v hs hn ct tx tl) (hs1 : rng s) (hw : rng w) (hg : rng g) (ht : rng tu) : Ct L (d + 5) k_X7_makes [vR 2, vI s, vI w, vI g, vI tu] I (PZ I (sMk v s w g tu) v hs hn ct tx tl) := by
  show Go L (d + 5) k_X7_makes 0 [some (vR 2), some (vI s), some (vI w), some (vI g), some (vI tu)] [] I _
  refine g_l 1 rfl rfl ?_
  refine g_fr rfl rfl ⟨⟨by decide, by omega, by decide⟩, by decide⟩ rfl ?_
  refine g_l 5 rfl rfl ?_
  refine g_fr rfl rfl ⟨⟨by decide, by omega, by decide⟩, by decide⟩ rfl ?_
  refine g_call rfl (c_before h) (fun r J hJ => ?_) (hr := rcv7 rfl)
  obtain ⟨rfl, h7, hC, hF⟩ := hJ
  refine g_l 12 rfl rfl ?_
  refine g_l 13 rfl rfl ?_
  refine g_fr rfl rfl ⟨⟨by decide, by omega, by decide⟩, by decide⟩ rfl ?_
  refine g_l 17 rfl rfl ?_
  refine g_fr rfl rfl ⟨⟨by decide, by omega, by decide⟩, by decide⟩ rfl ?_
  refine g_l 21 rfl rfl ?_
  refine g_l 22 rfl rfl ?_
  refine g_l 23 rfl rfl ?_
  refine g_l 25 rfl rfl ?_
  refine g_call rfl (c_makePieces hC.1 hC.2.1 hs1 hw hg ht) (fun r K hK => ?_) (hr := rcv81 rfl)
  obtain ⟨rfl, k1, k2⟩ := hK
  have hz := sMk_ok (v := v) (s := s) (w := w) (g := g) (tu := tu)
  refine g_call rfl (c_endChange hz.1 hz.2 k1 (ok_mk hC.2.1) (h7.fq (fun q a b => k2 q (by omega) (by omega) (by omega))) hC.2.1 (hC.2.2.fr (fun q hq => k2 q (by omega) (by omega) (by omega)))) (fun r M hM => ?_) (hr := rcv2 rfl)
  obtain ⟨rfl, m1, m2⟩ := hM
  exact g_ret rfl rfl ⟨rfl, m1, fun q hq => by rw [m2 q hq, k2 q (by omega) (by omega) (by omega), hF q hq]⟩
end CH
