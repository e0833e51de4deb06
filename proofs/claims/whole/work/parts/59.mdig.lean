/-! EdgeJoinModel: digest -/
section MD
variable {L d : Nat} {I : zI} {v : Nat → Int} {hs : Nat → Nat → Int} {hn : Nat} {ct tx : Nat → Int} {tl : Nat}
theorem m_digest (h : MI I v hs hn ct tx tl) : Ct L (d + 8) k_X8_digest [vR 137] I (fun r J => r = some (vL (dgA v hn ct tl)) ∧ MI J v hs hn ct tx tl ∧ FrM I J) := by
  have hfN := fN_le h.2.1
  have hf := fS_rng h.2.1
  have ho := h.2.1
  have tail : ∀ (x : Int) (J : zI) (o3 o4 : Option zV), x = dtF v (fS v).toNat 0 (dpF v (fN v) 0 (d8F v hn ct tl 8 0 2389)) → MI J v hs hn ct tx tl → FrM I J → Go L (d + 8) k_X8_digest 119 [some (vR 137), some (vL x), none, o3, o4] [] J (fun r J => r = some (vL (dgA v hn ct tl)) ∧ MI J v hs hn ct tx tl ∧ FrM I J) := by
    intro x J o3 o4 hx hJ hF
    unfold dgA
    rw [← hx]
    refine g_ld2 122 rfl ?_
    refine g_ld2 125 rfl ?_
    refine g_l 126 rfl rfl ?_
    refine g_p 127 rfl rfl ?_
    refine g_l 128 rfl rfl ?_
    refine g_callE rfl (m_costNow hJ.1 ho) ?_ (hr := rcvM rfl)
    refine g_p 132 rfl rfl ?_
    refine g_p 133 rfl rfl ?_
    refine g_p 134 rfl rfl ?_
    refine g_l 135 rfl rfl ?_
    refine g_p 136 rfl rfl ?_
    refine g_call rfl (m_pairsOf (i := -1) hJ.1 ho ⟨by decide, by decide⟩) (fun r J2 h2 => ?_) (hr := rcvM rfl)
    obtain ⟨rfl, b2⟩ := h2
    have a2 := b2.al hJ.1
    refine g_p 140 rfl rfl ?_
    refine g_p 141 rfl rfl ?_
    refine g_l 142 rfl rfl ?_
    refine g_ld2 145 rfl ?_
    refine g_ld2 148 rfl ?_
    refine g_ld2 151 rfl ?_
    refine g_l 152 rfl rfl ?_
    refine g_p 153 rfl rfl ?_
    refine g_l 154 rfl rfl ?_
    refine g_call rfl (m_groupsB a2 ho) (fun r J3 h3 => ?_) (hr := rcvM rfl)
    obtain ⟨rfl, b3⟩ := h3
    have a3 := b3.al a2
    refine g_p 158 rfl rfl ?_
    refine g_p 159 rfl rfl ?_
    refine g_p 160 rfl rfl ?_
    refine g_l 161 rfl rfl ?_
    refine g_p 162 rfl rfl ?_
    refine g_callE rfl (m_edgesOf (w := 0) a3 ho (Or.inl rfl)) ?_ (hr := rcvM rfl)
    refine g_p 166 rfl rfl ?_
    refine g_p 167 rfl rfl ?_
    refine g_p 168 rfl rfl ?_
    refine g_l 169 rfl rfl ?_
    refine g_p 170 rfl rfl ?_
    refine g_callE rfl (m_edgesOf (w := 1) a3 ho (Or.inr rfl)) ?_ (hr := rcvM rfl)
    refine g_p 174 rfl rfl ?_
    refine g_p 175 rfl rfl ?_
    exact g_ret rfl rfl ⟨rfl, (hJ.q b2.q).q b3.q, hF.tr (b2.q.m.tr b3.q.m)⟩
  have places : ∀ (m p : Nat) (x : Int) (J : zI) (o4 : Option zV), (p : Int) + m = fS v → dtF v m p x = dtF v (fS v).toNat 0 (dpF v (fN v) 0 (d8F v hn ct tl 8 0 2389)) → MI J v hs hn ct tx tl → FrM I J → Go L (d + 8) k_X8_digest 92 [some (vR 137), some (vL x), none, some (vI p), o4] [] J (fun r J => r = some (vL (dgA v hn ct tl)) ∧ MI J v hs hn ct tx tl ∧ FrM I J) := by
    intro m
    induction m with
    | zero =>
      intro p x J o4 hp hx hJ hF
      refine g_l 93 rfl rfl ?_
      refine g_l 94 rfl rfl ?_
      refine g_callE rfl (m_places hJ.1) ?_ (hr := rcvM rfl)
      refine g_ic_ge rfl (by omega) (by omega) (fun g => ?_) (fun g => ?_)
      · exact tail x J _ _ hx hJ hF
      · exact absurd g (by omega)
    | succ m ih =>
      intro p x J o4 hp hx hJ hF
      refine g_l 93 rfl rfl ?_
      refine g_l 94 rfl rfl ?_
      refine g_callE rfl (m_places hJ.1) ?_ (hr := rcvM rfl)
      refine g_ic_ge rfl (by omega) (by omega) (fun g => ?_) (fun g => ?_)
      · exact absurd g (by omega)
      · refine g_ld2 103 rfl ?_
        refine g_l 104 rfl rfl ?_
        refine g_p 105 rfl rfl ?_
        refine g_l 106 rfl rfl ?_
        refine g_l 107 rfl rfl ?_
        refine g_callE rfl (m_lies hJ.1 (by omega)) ?_ (hr := rcvM rfl)
        refine g_p 111 rfl rfl ?_
        refine g_p 112 rfl rfl ?_
        refine g_l 113 rfl rfl ?_
        refine g_l 116 rfl rfl ?_
        refine g_goto rfl ?_
        exact ih (p + 1) _ J _ (by omega) hx hJ hF
  have pieces : ∀ (m p : Nat) (x : Int) (J : zI) (o4 : Option zV), p + m = fN v → dpF v m p x = dpF v (fN v) 0 (d8F v hn ct tl 8 0 2389) → MI J v hs hn ct tx tl → FrM I J → Go L (d + 8) k_X8_digest 33 [some (vR 137), some (vL x), none, some (vI p), o4] [] J (fun r J => r = some (vL (dgA v hn ct tl)) ∧ MI J v hs hn ct tx tl ∧ FrM I J) := by
    intro m
    induction m with
    | zero =>
      intro p x J o4 hp hx hJ hF
      refine g_l 34 rfl rfl ?_
      refine g_l 35 rfl rfl ?_
      refine g_callE rfl (m_many hJ.1) ?_ (hr := rcvM rfl)
      refine g_ic_ge rfl (by omega) (by omega) (fun g => ?_) (fun g => ?_)
      · have hx : x = dpF v (fN v) 0 (d8F v hn ct tl 8 0 2389) := hx
        refine g_p 91 rfl rfl ?_
        refine g_l 92 rfl rfl ?_
        exact places (fS v).toNat 0 x J _ (by omega) (by rw [hx]) hJ hF
      · exact absurd g (by omega)
    | succ m ih =>
      intro p x J o4 hp hx hJ hF
      refine g_l 34 rfl rfl ?_
      refine g_l 35 rfl rfl ?_
      refine g_callE rfl (m_many hJ.1) ?_ (hr := rcvM rfl)
      refine g_ic_ge rfl (by omega) (by omega) (fun g => ?_) (fun g => ?_)
      · exact absurd g (by omega)
      · refine g_ld2 44 rfl ?_
        refine g_l 45 rfl rfl ?_
        refine g_p 46 rfl rfl ?_
        refine g_l 47 rfl rfl ?_
        refine g_l 48 rfl rfl ?_
        refine g_callE rfl (m_bits hJ.1 (by omega)) ?_ (hr := rcvM rfl)
        refine g_p 52 rfl rfl ?_
        refine g_p 53 rfl rfl ?_
        refine g_l 54 rfl rfl ?_
        refine g_p 55 rfl rfl ?_
        refine g_l 57 rfl rfl ?_
        have inner : ∀ (mm w : Nat) (y : Int) (K : zI), w + mm = 5 → doF v p mm w y = doF v p 5 0 (31 * x + n32 (v (1 + p))) → MI K v hs hn ct tx tl → FrM I K → Go L (d + 8) k_X8_digest 57 [some (vR 137), some (vL y), none, some (vI p), some (vI w)] [] K (fun r J => r = some (vL (dgA v hn ct tl)) ∧ MI J v hs hn ct tx tl ∧ FrM I J) := by
          intro mm
          induction mm with
          | zero =>
            intro w y K hw hy hK hKF
            refine g_l 59 rfl rfl ?_
            refine g_p 60 rfl rfl ?_
            refine g_ic_ge rfl (by omega) (by omega) (fun g2 => ?_) (fun g2 => ?_)
            · have hy : y = doF v p 5 0 (31 * x + n32 (v (1 + p))) := hy
              refine g_l 87 rfl rfl ?_
              refine g_goto rfl ?_
              exact ih (p + 1) y K _ (by omega) (by rw [← hx, dpF, hy]) hK hKF
            · exact absurd g2 (by omega)
          | succ mm ihw =>
            intro w y K hw hy hK hKF
            refine g_l 59 rfl rfl ?_
            refine g_p 60 rfl rfl ?_
            refine g_ic_ge rfl (by omega) (by omega) (fun g2 => ?_) (fun g2 => ?_)
            · exact absurd g2 (by omega)
            · refine g_ld2 66 rfl ?_
              refine g_l 67 rfl rfl ?_
              refine g_p 68 rfl rfl ?_
              refine g_l 69 rfl rfl ?_
              refine g_l 70 rfl rfl ?_
              refine g_l 72 rfl rfl ?_
              refine g_call rfl (m_ofPiece (p := p) (w := (w : Int)) hK.1 ho (by omega) ⟨by omega, by omega⟩) (fun r M hM => ?_) (hr := rcvM rfl)
              obtain ⟨rfl, b1⟩ := hM
              refine g_p 76 rfl rfl ?_
              refine g_p 77 rfl rfl ?_
              refine g_l 78 rfl rfl ?_
              refine g_l 81 rfl rfl ?_
              refine g_goto rfl ?_
              exact ihw (w + 1) _ M (by omega) hy (hK.q b1.q) (hKF.tr b1.q.m)
        exact inner 5 0 _ J (by omega) rfl hJ hF
  have eight : ∀ (m w : Nat) (x : Int) (J : zI) (o4 : Option zV), w + m = 8 → d8F v hn ct tl m w x = d8F v hn ct tl 8 0 2389 → MI J v hs hn ct tx tl → FrM I J → Go L (d + 8) k_X8_digest 6 [some (vR 137), some (vL x), none, some (vI w), o4] [] J (fun r J => r = some (vL (dgA v hn ct tl)) ∧ MI J v hs hn ct tx tl ∧ FrM I J) := by
    intro m
    induction m with
    | zero =>
      intro w x J o4 hw hx hJ hF
      refine g_l 7 rfl rfl ?_
      refine g_p 9 rfl rfl ?_
      refine g_ic_ge rfl (by omega) (by omega) (fun g => ?_) (fun g => ?_)
      · have hx : x = d8F v hn ct tl 8 0 2389 := hx
        refine g_p 32 rfl rfl ?_
        refine g_l 33 rfl rfl ?_
        exact pieces (fN v) 0 x J _ (by omega) (by rw [hx]) hJ hF
      · exact absurd g (by omega)
    | succ m ih =>
      intro w x J o4 hw hx hJ hF
      refine g_l 7 rfl rfl ?_
      refine g_p 9 rfl rfl ?_
      refine g_ic_ge rfl (by omega) (by omega) (fun g => ?_) (fun g => ?_)
      · exact absurd g (by omega)
      · refine g_ld2 15 rfl ?_
        refine g_l 16 rfl rfl ?_
        refine g_p 17 rfl rfl ?_
        refine g_l 18 rfl rfl ?_
        refine g_l 19 rfl rfl ?_
        refine g_callE rfl (m_toldOf hJ ⟨by omega, by omega⟩) ?_ (hr := rcvM rfl)
        refine g_p 23 rfl rfl ?_
        refine g_p 24 rfl rfl ?_
        refine g_l 25 rfl rfl ?_
        refine g_l 28 rfl rfl ?_
        refine g_goto rfl ?_
        exact ih (w + 1) _ J _ (by omega) hx hJ hF
  show Go L (d + 8) k_X8_digest 0 [some (vR 137), none, none, none, none] [] I _
  refine g_ld2 3 rfl ?_
  refine g_l 4 rfl rfl ?_
  refine g_p 5 rfl rfl ?_
  refine g_l 6 rfl rfl ?_
  exact eight 8 0 2389 I none (by omega) rfl h FrM.rf
end MD
