/-! EdgeJoin: digest -/
def d8F (v : Nat → Int) (hn : Nat) (ct : Nat → Int) (tl : Nat) : Nat → Nat → Int → Int
  | 0, _, h => h
  | m + 1, w, h => d8F v hn ct tl m (w + 1) (31 * h + n32 (tdA v hn ct tl w))
def doF (v : Nat → Int) (p : Nat) : Nat → Nat → Int → Int
  | 0, _, h => h
  | m + 1, w, h => doF v p m (w + 1) (31 * h + n32 (ofA v p w))
def dpF (v : Nat → Int) : Nat → Nat → Int → Int
  | 0, _, h => h
  | m + 1, p, h => dpF v m (p + 1) (doF v p 5 0 (31 * h + n32 (v (1 + p))))
def dtF (v : Nat → Int) : Nat → Nat → Int → Int
  | 0, _, h => h
  | m + 1, p, h => dtF v m (p + 1) (31 * h + n32 (v (11 + p)))
noncomputable def dgA (v : Nat → Int) (hn : Nat) (ct : Nat → Int) (tl : Nat) : Int := 31 * (31 * (31 * (31 * (31 * dtF v (fS v).toNat 0 (dpF v (fN v) 0 (d8F v hn ct tl 8 0 2389)) + n32 (csA v)) + n32 (prA v (-1))) + n32 (gpA v)) + n32 (edA v 0)) + n32 (edA v 1)
section DG
variable {L d : Nat} {I : zI} {v : Nat → Int} {hs : Nat → Nat → Int} {hn : Nat} {ct tx : Nat → Int} {tl : Nat}
theorem c_digest (h : CI I v hs hn ct tx tl) : Ct L (d + 6) k_X7_digest [vR 2] I (fun r J => r = some (vL (dgA v hn ct tl)) ∧ CI J v hs hn ct tx tl ∧ FrC I J) := by
  have hfN := fN_le h.2.1
  have hf := fS_rng h.2.1
  have tail : ∀ (x : Int) (J : zI) (o3 o4 : Option zV), x = dtF v (fS v).toNat 0 (dpF v (fN v) 0 (d8F v hn ct tl 8 0 2389)) → CI J v hs hn ct tx tl → FrC I J → Go L (d + 6) k_X7_digest 132 [some (vR 2), some (vL x), none, o3, o4] [] J (fun r J => r = some (vL (dgA v hn ct tl)) ∧ CI J v hs hn ct tx tl ∧ FrC I J) := by
    intro x J o3 o4 hx hJ hF
    unfold dgA
    rw [← hx]
    refine g_ld2 135 rfl ?_
    refine g_l 136 rfl rfl ?_
    refine g_p 137 rfl rfl ?_
    refine g_l 138 rfl rfl ?_
    refine g_call rfl (c_cost hJ) (fun r J1 h1 => ?_) (hr := rcv2 rfl)
    obtain ⟨rfl, a1, b1⟩ := h1
    refine g_p 142 rfl rfl ?_
    refine g_p 143 rfl rfl ?_
    refine g_l 144 rfl rfl ?_
    refine g_ld2 147 rfl ?_
    refine g_l 148 rfl rfl ?_
    refine g_p 149 rfl rfl ?_
    refine g_l 150 rfl rfl ?_
    refine g_p 151 rfl rfl ?_
    refine g_call rfl (c_pairs (i := -1) a1 (by decide)) (fun r J2 h2 => ?_) (hr := rcv2 rfl)
    obtain ⟨rfl, a2, b2⟩ := h2
    refine g_p 155 rfl rfl ?_
    refine g_p 156 rfl rfl ?_
    refine g_l 157 rfl rfl ?_
    refine g_ld2 160 rfl ?_
    refine g_l 161 rfl rfl ?_
    refine g_p 162 rfl rfl ?_
    refine g_l 163 rfl rfl ?_
    refine g_call rfl (c_groups a2) (fun r J3 h3 => ?_) (hr := rcv2 rfl)
    obtain ⟨rfl, a3, b3⟩ := h3
    refine g_p 167 rfl rfl ?_
    refine g_p 168 rfl rfl ?_
    refine g_l 169 rfl rfl ?_
    refine g_ld2 172 rfl ?_
    refine g_l 173 rfl rfl ?_
    refine g_p 174 rfl rfl ?_
    refine g_l 175 rfl rfl ?_
    refine g_p 176 rfl rfl ?_
    refine g_call rfl (c_edges (w := 0) a3 (by decide)) (fun r J4 h4 => ?_) (hr := rcv2 rfl)
    obtain ⟨rfl, a4, b4⟩ := h4
    refine g_p 180 rfl rfl ?_
    refine g_p 181 rfl rfl ?_
    refine g_l 182 rfl rfl ?_
    refine g_ld2 185 rfl ?_
    refine g_l 186 rfl rfl ?_
    refine g_p 187 rfl rfl ?_
    refine g_l 188 rfl rfl ?_
    refine g_p 189 rfl rfl ?_
    refine g_call rfl (c_edges (w := 1) a4 (by decide)) (fun r J5 h5 => ?_) (hr := rcv2 rfl)
    obtain ⟨rfl, a5, b5⟩ := h5
    refine g_p 193 rfl rfl ?_
    refine g_p 194 rfl rfl ?_
    refine g_ret rfl rfl ⟨?_, a5, hF.tr (b1.tr (b2.tr (b3.tr (b4.tr b5))))⟩
    have e0 : qEdges v 0 = (edA v 0, 0) := if_pos (Or.inl rfl)
    have e1 : qEdges v 1 = (edA v 1, 0) := if_pos (Or.inr rfl)
    have e2 : qPairs v (-1) = (prA v (-1), 0) := if_neg (by decide)
    rw [e0, e1, e2]
  have places : ∀ (m p : Nat) (x : Int) (J : zI) (o4 : Option zV), (p : Int) + m = fS v → dtF v m p x = dtF v (fS v).toNat 0 (dpF v (fN v) 0 (d8F v hn ct tl 8 0 2389)) → CI J v hs hn ct tx tl → FrC I J → Go L (d + 6) k_X7_digest 99 [some (vR 2), some (vL x), none, some (vI p), o4] [] J (fun r J => r = some (vL (dgA v hn ct tl)) ∧ CI J v hs hn ct tx tl ∧ FrC I J) := by
    intro m
    induction m with
    | zero =>
      intro p x J o4 hp hx hJ hF
      have he := e5 hJ.1
      refine g_l 100 rfl rfl ?_
      refine g_l 101 rfl rfl ?_
      refine g_fr rfl rfl ⟨⟨by decide, by omega, by decide⟩, by decide⟩ rfl ?_
      refine g_fr rfl rfl ⟨⟨by decide, by omega, by decide⟩, by decide⟩ rfl ?_
      refine g_callE rfl (c_size IsR5) ?_ (hr := rcv5 rfl)
      rw [he.2]
      refine g_ic_ge rfl (by omega) (by omega) (fun g => ?_) (fun g => ?_)
      · exact tail x J _ _ hx hJ hF
      · exact absurd g (by omega)
    | succ m ih =>
      intro p x J o4 hp hx hJ hF
      have he := e5 hJ.1
      refine g_l 100 rfl rfl ?_
      refine g_l 101 rfl rfl ?_
      refine g_fr rfl rfl ⟨⟨by decide, by omega, by decide⟩, by decide⟩ rfl ?_
      refine g_fr rfl rfl ⟨⟨by decide, by omega, by decide⟩, by decide⟩ rfl ?_
      refine g_callE rfl (c_size IsR5) ?_ (hr := rcv5 rfl)
      rw [he.2]
      refine g_ic_ge rfl (by omega) (by omega) (fun g => ?_) (fun g => ?_)
      · exact absurd g (by omega)
      · refine g_ld2 116 rfl ?_
        refine g_l 117 rfl rfl ?_
        refine g_p 118 rfl rfl ?_
        refine g_l 119 rfl rfl ?_
        refine g_l 120 rfl rfl ?_
        refine g_call rfl (c_at (d := d + 3) (p := (p : Int)) hJ (by omega)) (fun r K hK => ?_) (hr := rcv2 rfl)
        obtain ⟨rfl, a1, b1⟩ := hK
        have e : qAt v p = (v (11 + p), 0) := if_pos ⟨by omega, by show (p : Int) < fS v; omega⟩
        rw [e] at a1 ⊢
        refine g_p 124 rfl rfl ?_
        refine g_p 125 rfl rfl ?_
        refine g_l 126 rfl rfl ?_
        refine g_l 129 rfl rfl ?_
        refine g_goto rfl ?_
        exact ih (p + 1) _ K _ (by omega) hx a1 (hF.tr b1)
  have pieces : ∀ (m p : Nat) (x : Int) (J : zI) (o4 : Option zV), p + m = fN v → dpF v m p x = dpF v (fN v) 0 (d8F v hn ct tl 8 0 2389) → CI J v hs hn ct tx tl → FrC I J → Go L (d + 6) k_X7_digest 33 [some (vR 2), some (vL x), none, some (vI p), o4] [] J (fun r J => r = some (vL (dgA v hn ct tl)) ∧ CI J v hs hn ct tx tl ∧ FrC I J) := by
    intro m
    induction m with
    | zero =>
      intro p x J o4 hp hx hJ hF
      refine g_l 34 rfl rfl ?_
      refine g_l 35 rfl rfl ?_
      refine g_fr rfl rfl ⟨⟨by decide, by omega, by decide⟩, by decide⟩ rfl ?_
      refine g_fi rfl rfl ⟨⟨by decide, by omega, by decide⟩, by decide⟩ ?_
      rw [hJ.1.1]
      refine g_ic_ge rfl (by omega) (by omega) (fun g => ?_) (fun g => ?_)
      · have hx : x = dpF v (fN v) 0 (d8F v hn ct tl 8 0 2389) := hx
        refine g_p 98 rfl rfl ?_
        refine g_l 99 rfl rfl ?_
        exact places (fS v).toNat 0 x J _ (by omega) (by rw [hx]) hJ hF
      · exact absurd g (by omega)
    | succ m ih =>
      intro p x J o4 hp hx hJ hF
      refine g_l 34 rfl rfl ?_
      refine g_l 35 rfl rfl ?_
      refine g_fr rfl rfl ⟨⟨by decide, by omega, by decide⟩, by decide⟩ rfl ?_
      refine g_fi rfl rfl ⟨⟨by decide, by omega, by decide⟩, by decide⟩ ?_
      rw [hJ.1.1]
      refine g_ic_ge rfl (by omega) (by omega) (fun g => ?_) (fun g => ?_)
      · exact absurd g (by omega)
      · refine g_ld2 47 rfl ?_
        refine g_l 48 rfl rfl ?_
        refine g_p 49 rfl rfl ?_
        refine g_l 50 rfl rfl ?_
        refine g_fr rfl rfl ⟨⟨by decide, by omega, by decide⟩, by decide⟩ rfl ?_
        refine g_fr rfl rfl ⟨⟨by decide, by omega, by decide⟩, by decide⟩ rfl ?_
        refine g_l 57 rfl rfl ?_
        refine g_ia p rfl rfl rfl (by omega) ?_
        rw [hJ.1.2.1 p (by omega)]
        refine g_p 59 rfl rfl ?_
        refine g_p 60 rfl rfl ?_
        refine g_l 61 rfl rfl ?_
        refine g_p 62 rfl rfl ?_
        refine g_l 64 rfl rfl ?_
        have inner : ∀ (mm w : Nat) (y : Int) (K : zI), w + mm = 5 → doF v p mm w y = doF v p 5 0 (31 * x + n32 (v (1 + p))) → CI K v hs hn ct tx tl → FrC I K → Go L (d + 6) k_X7_digest 64 [some (vR 2), some (vL y), none, some (vI p), some (vI w)] [] K (fun r J => r = some (vL (dgA v hn ct tl)) ∧ CI J v hs hn ct tx tl ∧ FrC I J) := by
          intro mm
          induction mm with
          | zero =>
            intro w y K hw hy hK hKF
            refine g_l 66 rfl rfl ?_
            refine g_p 67 rfl rfl ?_
            refine g_ic_ge rfl (by omega) (by omega) (fun g2 => ?_) (fun g2 => ?_)
            · have hy : y = doF v p 5 0 (31 * x + n32 (v (1 + p))) := hy
              refine g_l 94 rfl rfl ?_
              refine g_goto rfl ?_
              exact ih (p + 1) y K _ (by omega) (by rw [← hx, dpF, hy]) hK hKF
            · exact absurd g2 (by omega)
          | succ mm ihw =>
            intro w y K hw hy hK hKF
            refine g_l 66 rfl rfl ?_
            refine g_p 67 rfl rfl ?_
            refine g_ic_ge rfl (by omega) (by omega) (fun g2 => ?_) (fun g2 => ?_)
            · exact absurd g2 (by omega)
            · refine g_ld2 73 rfl ?_
              refine g_l 74 rfl rfl ?_
              refine g_p 75 rfl rfl ?_
              refine g_l 76 rfl rfl ?_
              refine g_l 77 rfl rfl ?_
              refine g_l 79 rfl rfl ?_
              refine g_call rfl (c_of (p := (p : Int)) (w := (w : Int)) hK (by omega) (by omega)) (fun r M hM => ?_) (hr := rcv2 rfl)
              obtain ⟨rfl, a1, b1⟩ := hM
              have e : qOf v p w = (ofA v p w, 0) := if_pos ⟨⟨by omega, by omega⟩, by omega, by omega⟩
              rw [e] at a1 ⊢
              refine g_p 83 rfl rfl ?_
              refine g_p 84 rfl rfl ?_
              refine g_l 85 rfl rfl ?_
              refine g_l 88 rfl rfl ?_
              refine g_goto rfl ?_
              exact ihw (w + 1) _ M (by omega) hy a1 (hKF.tr b1)
        exact inner 5 0 _ J (by omega) rfl hJ hF
  have eight : ∀ (m w : Nat) (x : Int) (J : zI) (o4 : Option zV), w + m = 8 → d8F v hn ct tl m w x = d8F v hn ct tl 8 0 2389 → CI J v hs hn ct tx tl → FrC I J → Go L (d + 6) k_X7_digest 6 [some (vR 2), some (vL x), none, some (vI w), o4] [] J (fun r J => r = some (vL (dgA v hn ct tl)) ∧ CI J v hs hn ct tx tl ∧ FrC I J) := by
    intro m
    induction m with
    | zero =>
      intro w x J o4 hw hx hJ hF
      refine g_l 7 rfl rfl ?_
      refine g_p 9 rfl rfl ?_
      refine g_ic_ge rfl (by omega) (by omega) (fun g => ?_) (fun g => ?_)
      · have hx : x = d8F v hn ct tl 8 0 2389 := hx
        refine g_p 32 rfl rfl ?_
        refine g_l 33 rfl rfl ?_
        exact pieces (fN v) 0 x J _ (by omega) (by rw [hx]) hJ hF
      · exact absurd g (by omega)
    | succ m ih =>
      intro w x J o4 hw hx hJ hF
      refine g_l 7 rfl rfl ?_
      refine g_p 9 rfl rfl ?_
      refine g_ic_ge rfl (by omega) (by omega) (fun g => ?_) (fun g => ?_)
      · exact absurd g (by omega)
      · refine g_ld2 15 rfl ?_
        refine g_l 16 rfl rfl ?_
        refine g_p 17 rfl rfl ?_
        refine g_l 18 rfl rfl ?_
        refine g_l 19 rfl rfl ?_
        refine g_call rfl (c_told (d := d + 4) (w := (w : Int)) hJ (by omega)) (fun r K hK => ?_) (hr := rcv2 rfl)
        obtain ⟨rfl, a1, b1⟩ := hK
        have e : qTold v hn ct tl w = (tdA v hn ct tl w, 0) := if_pos ⟨by omega, by omega⟩
        rw [e] at a1 ⊢
        refine g_p 23 rfl rfl ?_
        refine g_p 24 rfl rfl ?_
        refine g_l 25 rfl rfl ?_
        refine g_l 28 rfl rfl ?_
        refine g_goto rfl ?_
        exact ih (w + 1) _ K _ (by omega) hx a1 (hF.tr b1)
  show Go L (d + 6) k_X7_digest 0 [some (vR 2), none, none, none, none] [] I _
  refine g_ld2 3 rfl ?_
  refine g_l 4 rfl rfl ?_
  refine g_p 5 rfl rfl ?_
  refine g_l 6 rfl rfl ?_
  exact eight 8 0 2389 I none (by omega) rfl h FrC.rf
end DG
