/-! EdgeJoinModel: changes -/
section MC
variable {L d : Nat} {I : zI} {v : Nat → Int} {hs : Nat → Nat → Int} {hn : Nat} {ct tx : Nat → Int} {tl : Nat}
theorem MI.new {J : zI} {w : Nat → Int} (h : MI I v hs hn ct tx tl) (hA : AL J w) (ho : OKv w) (hq : ∀ q, q ≠ 138 → J q = I q) : MI J w hs hn ct tx tl := ⟨hA, ho, h.2.2.fr (by rw [hq 137 (by omega)]) (by rw [hq 137 (by omega)]) (fun q a => hq q (by omega))⟩
/-- behind a change -/
def PY (I : zI) (z : Int × (Nat → Int)) (v : Nat → Int) (hs : Nat → Nat → Int) (hn : Nat) (ct tx : Nat → Int) (tl : Nat) : Option zV → zI → Prop := fun r J => r = some (vI z.1) ∧ MI J z.2 (mhs z.1 v hs hn) (mhn z.1 hn) (mct z.1 ct) tx tl ∧ FrM I J
theorem PY.no {J : zI} {z : Int} (hz : why3 z) (h : MI J v hs hn (rf0 ct z) tx tl ∧ FrM I J) : PY I (z, v) v hs hn ct tx tl (some (vI z)) J := by
  refine ⟨rfl, ?_, h.2⟩
  show MI J v (mhs z v hs hn) (mhn z hn) (mct z ct) tx tl
  have e : rf0 ct z = rfs ct z := if_neg (by omega)
  unfold mhs mhn mct
  rw [if_pos (by omega), if_pos (by omega), if_pos (by omega), ← e]
  exact h.1
theorem PY.yes {J M : zI} {z : Int} {w : Nat → Int} (hz : 0 ≤ z) (h : MI M v (hpush hs hn v) (if hn < 6 then hn + 1 else 6) ct tx tl ∧ FrM I M) (hA : AL J w) (ho : OKv w) (hq : ∀ q, q ≠ 138 → J q = M q) : PY I (z, w) v hs hn ct tx tl (some (vI z)) J := by
  refine ⟨rfl, ?_, fun q a => by rw [hq q (by omega)]; exact h.2 q a⟩
  show MI J w (mhs z v hs hn) (mhn z hn) (mct z ct) tx tl
  have e1 : mhs z v hs hn = hpush hs hn v := if_neg (by omega)
  have e2 : mhn z hn = (if hn < 6 then hn + 1 else 6) := if_neg (by omega)
  have e3 : mct z ct = ct := if_neg (by omega)
  rw [e1, e2, e3]
  exact h.1.new hA ho hq
theorem m_pieceNow {c : Int} (hA : AL I v) (h0 : 0 ≤ v 0 ∧ v 0 < 8) : Ct L (d + 1) k_X8_pieceNow [vR 137, vI c] I (fun r J => r = some (vI (v 0)) ∧ AL J (vAdd v c) ∧ ∀ q, q ≠ 138 → J q = I q) := by
  show Go L (d + 1) k_X8_pieceNow 0 [some (vR 137), some (vI c), none] [] I _
  refine g_l 1 rfl rfl ?_
  refine g_callE rfl (m_many hA) ?_ (hr := rcvM rfl)
  refine g_l 5 rfl rfl ?_
  refine g_l 6 rfl rfl ?_
  refine g_fr rfl rfl ⟨⟨by decide, by omega, by decide⟩, by decide⟩ rfl ?_
  refine g_p 10 rfl rfl ?_
  refine g_l 11 rfl rfl ?_
  refine g_p 12 rfl rfl ?_
  refine g_l 13 rfl rfl ?_
  refine g_ias (1 + (v 0).toNat) rfl rfl (by omega) (by omega) (by omega) ?_
  refine g_l 15 rfl rfl ?_
  refine g_fr rfl rfl ⟨⟨by decide, by omega, by decide⟩, by decide⟩ rfl ?_
  refine g_p 19 rfl rfl ?_
  refine g_p 20 rfl rfl ?_
  refine g_ia 0 rfl rfl rfl (by omega) ?_
  rw [zup2_an (by omega), hA 0 (by omega)]
  refine g_p 22 rfl rfl ?_
  refine g_p 23 rfl rfl ?_
  refine g_ias 0 rfl rfl (by omega) rfl (by omega) ?_
  refine g_l 25 rfl rfl ?_
  refine g_ret rfl rfl ⟨rfl, fun k hk => ?_, fun q hq => by rw [zup2_ne hq, zup2_ne hq]⟩
  unfold vAdd
  rw [zup2_fn, zup2_fn]
  exact zup_pt (N := 19) (zup_pt hA rfl) rfl k hk
theorem m_piece {c : Int} (h : MI I v hs hn ct tx tl) (hc : rng c) : Ct L (d + 2) k_X8_piece [vR 137, vI c] I (PY I (sAdd v c) v hs hn ct tx tl) := by
  have h0 := h.2.1.1
  have hok := ok_add (c := c) h.2.1 hc
  show Go L (d + 2) k_X8_piece 0 [some (vR 137), some (vI c)] [] I _
  refine g_l 1 rfl rfl ?_
  refine g_callE rfl (m_many h.1) ?_ (hr := rcvM rfl)
  refine g_p 6 rfl rfl ?_
  unfold sAdd at hok ⊢
  refine g_ic_ne rfl (by omega) (by omega) (fun g => ?_) (fun g => ?_)
  · rw [if_pos (by omega)] at hok ⊢
    refine g_l 17 rfl rfl ?_
    refine g_call rfl (m_keep h) (fun r J hJ => ?_) (hr := rcvM rfl)
    obtain ⟨rfl, hJ⟩ := hJ
    refine g_l 21 rfl rfl ?_
    refine g_l 22 rfl rfl ?_
    refine g_call rfl (m_pieceNow hJ.1.1 ⟨h0.1, by omega⟩) (fun r K hK => ?_) (hr := rcvM rfl)
    obtain ⟨rfl, k1, k2⟩ := hK
    exact g_ret rfl rfl (PY.yes h0.1 hJ k1 hok k2)
  · rw [if_neg (by omega)]
    refine g_l 10 rfl rfl ?_
    refine g_p 12 rfl rfl ?_
    refine g_call rfl (m_refuse (Or.inr (Or.inr rfl)) h) (fun r J hJ => ?_) (hr := rcvM rfl)
    obtain ⟨rfl, hJ⟩ := hJ
    exact g_ret rfl rfl (PY.no (Or.inr (Or.inr rfl)) hJ)
theorem m_drops {p : Int} (h : MI I v hs hn ct tx tl) (hp : rng p) : Ct L (d + 2) k_X8_drops [vR 137, vI p] I (PY I (sDrop v p) v hs hn ct tx tl) := by
  have h0 := h.2.1.1
  have h4 := h.2.1.2.2.2.1
  have hok := ok_drop (k := p) h.2.1
  have b1 := b2i_r (0 ≤ p ∧ p < v 0)
  show Go L (d + 2) k_X8_drops 0 [some (vR 137), some (vI p), none, none, none] [] I _
  refine g_l 1 rfl rfl ?_
  refine g_l 2 rfl rfl ?_
  refine g_callE rfl (m_isPiece h.1 h.2.1 hp) ?_ (hr := rcvM rfl)
  unfold sDrop at hok ⊢
  refine g_if_ne rfl (by omega) (fun g => ?_) (fun g => ?_)
  · have g := b2i_1 g
    rw [if_pos g] at hok ⊢
    obtain ⟨pn, hpn⟩ := Int.eq_ofNat_of_zero_le g.1
    subst hpn
    refine g_l 16 rfl rfl ?_
    refine g_call rfl (m_keep h) (fun r J hJ => ?_) (hr := rcvM rfl)
    obtain ⟨rfl, hJ⟩ := hJ
    have hA := hJ.1.1
    refine g_l 20 rfl rfl ?_
    refine g_fr rfl rfl ⟨⟨by decide, by omega, by decide⟩, by decide⟩ rfl ?_
    refine g_p 24 rfl rfl ?_
    refine g_p 25 rfl rfl ?_
    refine g_ia 0 rfl rfl rfl (by omega) ?_
    rw [hA 0 (by omega)]
    refine g_p 27 rfl rfl ?_
    refine g_p 28 rfl rfl ?_
    refine g_ias 0 rfl rfl (by omega) rfl (by omega) ?_
    refine g_l 30 rfl rfl ?_
    refine g_l 31 rfl rfl ?_
    have places : ∀ (m a : Nat) (K : zI) (o3 o4 : Option zV), a + m = 8 → (∀ k, k < 11 → K 138 k = vDrop v pn k) → (∀ k, k < 8 → K 138 (11 + k) = if k < a then rmv pn (v (11 + k)) else v (11 + k)) → (∀ q, q ≠ 138 → K q = J q) → Go L (d + 2) k_X8_drops 63 [some (vR 137), some (vI pn), some (vI a), o3, o4] [] K (PY I (v 0 - 1, vDrop v pn) v hs hn ct tx tl) := by
      intro m
      induction m with
      | zero =>
        intro a K o3 o4 ha k1 k2 k3
        have hAK : AL K (vDrop v pn) := fun k hk => by
          by_cases hk11 : k < 11
          · exact k1 k hk11
          · have := k2 (k - 11) (by omega)
            rw [show 11 + (k - 11) = k by omega, if_pos (by omega)] at this
            rw [this]
            unfold vDrop
            rw [if_neg (by omega), if_neg (by omega), if_neg (by omega), if_pos (by omega)]
        refine g_l 64 rfl rfl ?_
        refine g_p 66 rfl rfl ?_
        refine g_ic_ge rfl (by omega) (by omega) (fun g2 => ?_) (fun g2 => ?_)
        · refine g_l 127 rfl rfl ?_
          refine g_callE rfl (m_many hAK) ?_ (hr := rcvM rfl)
          exact g_ret rfl rfl (PY.yes (show 0 ≤ v 0 - 1 by omega) hJ hAK hok k3)
        · exact absurd g2 (by omega)
      | succ m ih =>
        intro a K o3 o4 ha k1 k2 k3
        have h4a := h4 a (by omega)
        have ka : K 138 (11 + a) = v (11 + a) := by rw [k2 a (by omega), if_neg (by omega)]
        have hlie : Ev L (d + 1) k_X8_lies [vR 137, vI a] K (some (vI (v (11 + a)))) K := by
          show Go L (d + 1) k_X8_lies 0 [some (vR 137), some (vI a)] [] K _
          refine g_l 1 rfl rfl ?_
          refine g_fr rfl rfl ⟨⟨by decide, by omega, by decide⟩, by decide⟩ rfl ?_
          refine g_p 6 rfl rfl ?_
          refine g_l 7 rfl rfl ?_
          refine g_p 8 rfl rfl ?_
          refine g_ia (11 + a) rfl rfl (by omega) (by omega) ?_
          rw [ka]
          exact g_ret rfl rfl ⟨rfl, rfl⟩
        have store : ∀ (x : Int) (o3 o4 : Option zV), x = rmv pn (v (11 + a)) → Go L (d + 2) k_X8_drops 119 [some (vR 137), some (vI pn), some (vI a), o3, o4] [vI x, vI (11 + (a : Int)), vR 138] K (PY I (v 0 - 1, vDrop v pn) v hs hn ct tx tl) := fun x o3 o4 hx => by
          refine g_ias (11 + a) rfl rfl (by omega) (by omega) (by omega) ?_
          refine g_l 123 rfl rfl ?_
          refine g_goto rfl ?_
          refine ih (a + 1) _ _ _ (by omega) (fun k hk => by rw [zup2_an (by omega)]; exact k1 k hk) (fun k hk => ?_) (fun q hq => by rw [zup2_ne hq]; exact k3 q hq)
          by_cases hka : k = a
          · rw [hka, zup2_at, if_pos (by omega), hx]
          · rw [zup2_an (by omega), k2 k hk]
            by_cases hkb : k < a
            · rw [if_pos hkb, if_pos (by omega)]
            · rw [if_neg hkb, if_neg (by omega)]
        have mid : ∀ (its : Int) (o4 : Option zV), its = (if v (11 + a) < 0 then -1 else v (11 + a) / 4) → Go L (d + 2) k_X8_drops 86 [some (vR 137), some (vI pn), some (vI a), some (vI (v (11 + a))), o4] [vI its] K (PY I (v 0 - 1, vDrop v pn) v hs hn ct tx tl) := fun its o4 hits => by
          have hr : rng its := by rw [hits]; split <;> omega
          refine g_l 88 rfl rfl ?_
          refine g_l 89 rfl rfl ?_
          refine g_fr rfl rfl ⟨⟨by decide, by omega, by decide⟩, by decide⟩ rfl ?_
          refine g_p 94 rfl rfl ?_
          refine g_l 95 rfl rfl ?_
          refine g_p 96 rfl rfl ?_
          refine g_l 98 rfl rfl ?_
          refine g_l 99 rfl rfl ?_
          refine g_ic_ne rfl (by omega) (by omega) (fun g3 => ?_) (fun g3 => ?_)
          · refine g_l 108 rfl rfl ?_
            refine g_l 109 rfl rfl ?_
            refine g_ic_le rfl (by omega) (by omega) (fun g4 => ?_) (fun g4 => ?_)
            · refine g_l 119 rfl rfl ?_
              refine store _ _ _ ?_
              unfold rmv
              rw [if_neg, if_neg]
              · intro z
                rw [if_neg (by omega)] at hits
                omega
              · intro z
                rw [if_neg (by omega)] at hits
                omega
            · refine g_l 113 rfl rfl ?_
              refine g_p 114 rfl rfl ?_
              refine g_p 115 rfl rfl ?_
              refine g_goto rfl ?_
              refine store _ _ _ ?_
              have hneg : ¬ v (11 + a) < 0 := fun z => by
                rw [if_pos z] at hits
                omega
              rw [if_neg hneg] at hits
              unfold rmv
              rw [if_neg (by omega), if_pos ⟨by omega, by omega⟩]
          · refine g_p 103 rfl rfl ?_
            refine g_goto rfl ?_
            refine store _ _ _ ?_
            have hneg : ¬ v (11 + a) < 0 := fun z => by
              rw [if_pos z] at hits
              omega
            rw [if_neg hneg] at hits
            unfold rmv
            rw [if_pos ⟨by omega, by omega⟩]
        refine g_l 64 rfl rfl ?_
        refine g_p 66 rfl rfl ?_
        refine g_ic_ge rfl (by omega) (by omega) (fun g2 => ?_) (fun g2 => ?_)
        · exact absurd g2 (by omega)
        · refine g_l 70 rfl rfl ?_
          refine g_l 71 rfl rfl ?_
          refine g_callE rfl hlie ?_ (hr := rcvM rfl)
          refine g_l 75 rfl rfl ?_
          refine g_l 76 rfl rfl ?_
          refine g_if_ge rfl (by omega) (fun g3 => ?_) (fun g3 => ?_)
          · refine g_l 84 rfl rfl ?_
            refine g_p 85 rfl rfl ?_
            refine g_div 86 rfl (by omega) (by omega) ?_
            exact mid _ _ (by rw [if_neg (by omega)])
          · refine g_p 80 rfl rfl ?_
            refine g_goto rfl ?_
            exact mid _ _ (by rw [if_pos (by omega)])
    have shift : ∀ (m k : Nat) (K : zI), (k : Int) + m = v 0 - 1 → pn ≤ k → (∀ i, i < 19 → K 138 i = if i = 0 then v 0 - 1 else if pn + 1 ≤ i ∧ i < k + 1 then v (i + 1) else v i) → (∀ q, q ≠ 138 → K q = J q) → Go L (d + 2) k_X8_drops 31 [some (vR 137), some (vI pn), some (vI k), none, none] [] K (PY I (v 0 - 1, vDrop v pn) v hs hn ct tx tl) := by
      intro m
      induction m with
      | zero =>
        intro k K hk hpk k1 k2
        have hm : Ev L (d + 1) k_X8_many [vR 137] K (some (vI (v 0 - 1))) K := by
          have := m_many (L := L) (d := d + 1) (I := K) (v := fun i => K 138 i) (fun _ _ => rfl)
          rw [k1 0 (by omega), if_pos rfl] at this
          exact this
        refine g_l 32 rfl rfl ?_
        refine g_l 33 rfl rfl ?_
        refine g_callE rfl hm ?_ (hr := rcvM rfl)
        refine g_ic_ge rfl (by omega) (by omega) (fun g2 => ?_) (fun g2 => ?_)
        · refine g_p 62 rfl rfl ?_
          refine g_l 63 rfl rfl ?_
          refine places 8 0 K _ _ (by omega) (fun i hi => ?_) (fun i hi => ?_) k2
          · rw [k1 i (by omega)]
            unfold vDrop
            by_cases hi0 : i = 0
            · rw [if_pos hi0, if_pos hi0]
            · rw [if_neg hi0, if_neg hi0]
              by_cases hi9 : i < 9
              · rw [if_pos hi9]
                by_cases hc : pn + 1 ≤ i ∧ i < k + 1
                · rw [if_pos hc, if_pos (by omega)]
                · rw [if_neg hc, if_neg (by omega)]
              · rw [if_neg hi9, if_pos hi, if_neg (by omega)]
          · rw [k1 (11 + i) (by omega), if_neg (by omega), if_neg (by omega), if_neg (by omega)]
        · exact absurd g2 (by omega)
      | succ m ih =>
        intro k K hk hpk k1 k2
        have hm : Ev L (d + 1) k_X8_many [vR 137] K (some (vI (v 0 - 1))) K := by
          have := m_many (L := L) (d := d + 1) (I := K) (v := fun i => K 138 i) (fun _ _ => rfl)
          rw [k1 0 (by omega), if_pos rfl] at this
          exact this
        refine g_l 32 rfl rfl ?_
        refine g_l 33 rfl rfl ?_
        refine g_callE rfl hm ?_ (hr := rcvM rfl)
        refine g_ic_ge rfl (by omega) (by omega) (fun g2 => ?_) (fun g2 => ?_)
        · exact absurd g2 (by omega)
        · refine g_l 40 rfl rfl ?_
          refine g_fr rfl rfl ⟨⟨by decide, by omega, by decide⟩, by decide⟩ rfl ?_
          refine g_p 44 rfl rfl ?_
          refine g_l 45 rfl rfl ?_
          refine g_p 46 rfl rfl ?_
          refine g_l 47 rfl rfl ?_
          refine g_fr rfl rfl ⟨⟨by decide, by omega, by decide⟩, by decide⟩ rfl ?_
          refine g_p 51 rfl rfl ?_
          refine g_l 52 rfl rfl ?_
          refine g_p 53 rfl rfl ?_
          refine g_ia (2 + k) rfl rfl (by omega) (by omega) ?_
          rw [k1 (2 + k) (by omega), if_neg (by omega), if_neg (by omega)]
          refine g_ias (1 + k) rfl rfl (by omega) (by omega) (by omega) ?_
          refine g_l 58 rfl rfl ?_
          refine g_goto rfl ?_
          refine ih (k + 1) _ (by omega) (by omega) (fun i hi => ?_) (fun q hq => by rw [zup2_ne hq]; exact k2 q hq)
          by_cases hik : i = 1 + k
          · rw [hik, zup2_at, if_neg (by omega), if_pos (by omega), show 1 + k + 1 = 2 + k by omega]
          · rw [zup2_an hik, k1 i hi]
            by_cases hi0 : i = 0
            · rw [if_pos hi0, if_pos hi0]
            · rw [if_neg hi0, if_neg hi0]
              by_cases hc : pn + 1 ≤ i ∧ i < k + 1
              · rw [if_pos hc, if_pos (by omega)]
              · rw [if_neg hc, if_neg (by omega)]
    refine shift (v 0 - 1 - pn).toNat pn _ (by omega) (Nat.le_refl _) (fun i hi => ?_) (fun q hq => zup2_ne hq)
    by_cases hi0 : i = 0
    · rw [hi0, zup2_at, if_pos rfl]
    · rw [zup2_an hi0, if_neg hi0, if_neg (by omega)]
      exact hA i hi
  · rw [if_neg (b2i_0 (show b2i (0 ≤ p ∧ p < v 0) = 0 by omega))]
    refine g_l 9 rfl rfl ?_
    refine g_p 11 rfl rfl ?_
    refine g_call rfl (m_refuse (Or.inl rfl) h) (fun r J hJ => ?_) (hr := rcvM rfl)
    obtain ⟨rfl, hJ⟩ := hJ
    exact g_ret rfl rfl (PY.no (Or.inl rfl) hJ)
theorem m_lying (hA : AL I v) (ho : OKv v) : Ev L (d + 2) k_X8_lying [vR 137] I (some (vI (cn (vc v) (fS v)))) I := by
  have hf := fS_rng ho
  have h4 := ho.2.2.2.1
  have h0 := ho.1
  have key : ∀ (m p : Nat) (x : Int), (p : Int) + m = fS v → Go L (d + 2) k_X8_lying 4 [some (vR 137), some (vI x), some (vI p)] [] I (fun r J => r = some (vI (x + cnF (vc v) m p)) ∧ J = I) := by
    intro m
    induction m with
    | zero =>
      intro p x hp
      refine g_l 5 rfl rfl ?_
      refine g_l 6 rfl rfl ?_
      refine g_callE rfl (m_places hA) ?_ (hr := rcvM rfl)
      refine g_ic_ge rfl (by omega) (by omega) (fun g => ?_) (fun g => ?_)
      · refine g_l 35 rfl rfl ?_
        exact g_ret rfl rfl ⟨by simp [cnF], rfl⟩
      · exact absurd g (by omega)
    | succ m ih =>
      intro p x hp
      have h4p := h4 p (by omega)
      refine g_l 5 rfl rfl ?_
      refine g_l 6 rfl rfl ?_
      refine g_callE rfl (m_places hA) ?_ (hr := rcvM rfl)
      refine g_ic_ge rfl (by omega) (by omega) (fun g => ?_) (fun g => ?_)
      · exact absurd g (by omega)
      · refine g_l 13 rfl rfl ?_
        refine g_l 14 rfl rfl ?_
        refine g_l 15 rfl rfl ?_
        refine g_callE rfl (m_lies hA (by omega)) ?_ (hr := rcvM rfl)
        refine g_if_lt rfl (by omega) (fun g2 => ?_) (fun g2 => ?_)
        · refine g_p 26 rfl rfl ?_
          refine g_p 27 rfl rfl ?_
          refine g_l 28 rfl rfl ?_
          refine g_l 31 rfl rfl ?_
          refine g_goto rfl ?_
          have e : x + cnF (vc v) (m + 1) p = x + 0 + cnF (vc v) m (p + 1) := by
            rw [cnF, if_pos (show vc v p = -1 by show v (11 + p) = -1; omega)]
            omega
          rw [e]
          exact ih (p + 1) _ (by omega)
        · refine g_p 22 rfl rfl ?_
          refine g_goto rfl ?_
          refine g_p 27 rfl rfl ?_
          refine g_l 28 rfl rfl ?_
          refine g_l 31 rfl rfl ?_
          refine g_goto rfl ?_
          have e : x + cnF (vc v) (m + 1) p = x + 1 + cnF (vc v) m (p + 1) := by
            rw [cnF, if_neg (show ¬ vc v p = -1 by show ¬ v (11 + p) = -1; omega)]
            omega
          rw [e]
          exact ih (p + 1) _ (by omega)
  show Go L (d + 2) k_X8_lying 0 [some (vR 137), none, none] [] I _
  refine g_p 1 rfl rfl ?_
  refine g_l 2 rfl rfl ?_
  refine g_p 3 rfl rfl ?_
  refine g_l 4 rfl rfl ?_
  have h := key (fS v).toNat 0 0 (by omega)
  rw [Int.zero_add] at h
  exact h
theorem m_canTable {w g : Int} (hw : rng w) (hg : rng g) : Ev L (d + 1) k_X8_canTable [vI w, vI g] I (some (vI (if tsz w g then 0 else -2))) I := by
  have b1 := b2i_r (1 ≤ w ∧ w ≤ 8)
  have b2 := b2i_r (1 ≤ g ∧ g ≤ 8)
  have bad : ¬ tsz w g → Go L (d + 1) k_X8_canTable 36 [some (vI w), some (vI g)] [] I (fun r J => r = some (vI (if tsz w g then 0 else -2)) ∧ J = I) := fun hno => by
    refine g_p 38 rfl rfl ?_
    rw [if_neg hno]
    exact g_ret rfl rfl ⟨rfl, rfl⟩
  show Go L (d + 1) k_X8_canTable 0 [some (vI w), some (vI g)] [] I _
  refine g_l 1 rfl rfl ?_
  refine g_i2l 2 rfl (by omega) ?_
  refine g_lc1 3 rfl ?_
  refine g_ld2 6 rfl ?_
  refine g_callE rfl (m_in (by omega) (by decide) (by decide)) ?_
  refine g_if_eq rfl (by omega) (fun g1 => ?_) (fun g1 => ?_)
  · exact bad (fun z => b2i_0 g1 z.1)
  · have g1 := b2i_1 g1
    refine g_l 13 rfl rfl ?_
    refine g_i2l 14 rfl (by omega) ?_
    refine g_lc1 15 rfl ?_
    refine g_ld2 18 rfl ?_
    refine g_callE rfl (m_in (by omega) (by decide) (by decide)) ?_
    refine g_if_eq rfl (by omega) (fun g2 => ?_) (fun g2 => ?_)
    · exact bad (fun z => b2i_0 g2 z.2.1)
    · have g2 := b2i_1 g2
      have e1 := Int.mul_le_mul g1.2 g2.2 (by omega) (by omega)
      have e2 := Int.mul_nonneg (show 0 ≤ w by omega) (show 0 ≤ g by omega)
      refine g_l 25 rfl rfl ?_
      refine g_l 26 rfl rfl ?_
      refine g_p 27 rfl rfl ?_
      refine g_p 29 rfl rfl ?_
      refine g_ic_gt rfl (by omega) (by omega) (fun g3 => ?_) (fun g3 => ?_)
      · exact bad (fun z => absurd z.2.2 (by omega))
      · refine g_p 33 rfl rfl ?_
        refine g_goto rfl ?_
        rw [if_pos ⟨g1, g2, by omega⟩]
        exact g_ret rfl rfl ⟨rfl, rfl⟩
theorem m_tableNow {w g : Int} (hA : AL I v) (ho : OKv v) : Ct L (d + 3) k_X8_tableNow [vR 137, vI w, vI g] I (fun r J => r = some (vI (cn (vc v) (fS v))) ∧ AL J (vTab v w g) ∧ ∀ q, q ≠ 138 → J q = I q) := by
  show Go L (d + 3) k_X8_tableNow 0 [some (vR 137), some (vI w), some (vI g), none] [] I _
  refine g_l 1 rfl rfl ?_
  refine g_callE rfl (m_lying hA ho) ?_ (hr := rcvM rfl)
  refine g_l 5 rfl rfl ?_
  refine g_l 6 rfl rfl ?_
  refine g_l 7 rfl rfl ?_
  refine g_l 8 rfl rfl ?_
  refine g_call rfl m_lays (fun r J hJ => ?_) (hr := rcvM rfl)
  obtain ⟨rfl, j1, j2⟩ := hJ
  refine g_l 12 rfl rfl ?_
  refine g_ret rfl rfl ⟨rfl, fun k hk => ?_, j2⟩
  rw [j1 k]
  unfold vTab
  by_cases h9 : k < 9
  · rw [if_neg (by omega), if_neg (by omega), if_neg (by omega), if_pos h9]
    exact hA k hk
  · rw [if_neg h9]
    by_cases h99 : k = 9
    · rw [if_pos h99, if_pos h99]
    · rw [if_neg h99, if_neg h99]
      by_cases h10 : k = 10
      · rw [if_pos h10, if_pos h10]
      · rw [if_neg h10, if_neg h10, if_pos (by omega), if_pos hk]
theorem m_table {w g : Int} (h : MI I v hs hn ct tx tl) (hw : rng w) (hg : rng g) : Ct L (d + 4) k_X8_table [vR 137, vI w, vI g] I (PY I (sTab v w g) v hs hn ct tx tl) := by
  have hok := ok_tab (w := w) (h := g) h.2.1
  have hcn : 0 ≤ cn (vc v) (v 9 * v 10) := (cnF_rng (vc v) (v 9 * v 10).toNat 0).1
  show Go L (d + 4) k_X8_table 0 [some (vR 137), some (vI w), some (vI g)] [] I _
  refine g_l 1 rfl rfl ?_
  refine g_l 2 rfl rfl ?_
  refine g_callE rfl (m_canTable hw hg) ?_
  unfold sTab at hok ⊢
  by_cases ht : tsz w g
  · rw [if_pos ht] at hok ⊢
    rw [if_pos ht]
    refine g_if_ge rfl (by omega) (fun g1 => ?_) (fun g1 => ?_)
    · refine g_l 16 rfl rfl ?_
      refine g_call rfl (m_keep h) (fun r J hJ => ?_) (hr := rcvM rfl)
      obtain ⟨rfl, hJ⟩ := hJ
      refine g_l 20 rfl rfl ?_
      refine g_l 21 rfl rfl ?_
      refine g_l 22 rfl rfl ?_
      refine g_call rfl (m_tableNow hJ.1.1 hJ.1.2.1) (fun r K hK => ?_) (hr := rcvM rfl)
      obtain ⟨rfl, k1, k2⟩ := hK
      exact g_ret rfl rfl (PY.yes hcn hJ k1 hok k2)
    · exact absurd (show (0 : Int) ≤ 0 by decide) g1
  · rw [if_neg ht]
    rw [if_neg ht]
    refine g_if_ge rfl (by omega) (fun g1 => ?_) (fun g1 => ?_)
    · exact absurd g1 (by decide)
    · refine g_l 9 rfl rfl ?_
      refine g_p 11 rfl rfl ?_
      refine g_call rfl (m_refuse (Or.inl rfl) h) (fun r J hJ => ?_) (hr := rcvM rfl)
      obtain ⟨rfl, hJ⟩ := hJ
      exact g_ret rfl rfl (PY.no (Or.inl rfl) hJ)
/-- whether a piece can be taken -/
def cTake (v : Nat → Int) (p : Int) : Int := if 0 ≤ p ∧ p < fS v then (if v (11 + p.toNat) = -1 then -3 else 0) else -2
theorem m_canTake {p : Int} (hA : AL I v) (ho : OKv v) (hp : rng p) : Ev L (d + 3) k_X8_canTake [vR 137, vI p] I (some (vI (cTake v p))) I := by
  have hf := fS_rng ho
  have h0 := ho.1
  have b1 := b2i_r (0 ≤ p ∧ p < fS v)
  show Go L (d + 3) k_X8_canTake 0 [some (vR 137), some (vI p)] [] I _
  refine g_l 1 rfl rfl ?_
  refine g_l 2 rfl rfl ?_
  refine g_callE rfl (m_isPlace hA ho hp) ?_ (hr := rcvM rfl)
  unfold cTake
  refine g_if_ne rfl (by omega) (fun g1 => ?_) (fun g1 => ?_)
  · have g1 := b2i_1 g1
    obtain ⟨pn, hpn⟩ := Int.eq_ofNat_of_zero_le g1.1
    have h4 := ho.2.2.2.1 pn (by omega)
    rw [if_pos g1]
    subst hpn
    rw [Int.toNat_natCast]
    refine g_l 14 rfl rfl ?_
    refine g_l 15 rfl rfl ?_
    refine g_callE rfl (m_lies hA (by omega)) ?_ (hr := rcvM rfl)
    refine g_if_ge rfl (by omega) (fun g2 => ?_) (fun g2 => ?_)
    · refine g_p 27 rfl rfl ?_
      rw [if_neg (by omega)]
      exact g_ret rfl rfl ⟨rfl, rfl⟩
    · refine g_p 23 rfl rfl ?_
      refine g_goto rfl ?_
      rw [if_pos (by omega)]
      exact g_ret rfl rfl ⟨rfl, rfl⟩
  · rw [if_neg (b2i_0 (show b2i (0 ≤ p ∧ p < fS v) = 0 by omega))]
    refine g_p 10 rfl rfl ?_
    refine g_goto rfl ?_
    exact g_ret rfl rfl ⟨rfl, rfl⟩
theorem m_takeNow {p : Nat} (hA : AL I v) (hp : p < 8) (h0 : 0 ≤ v (11 + p) ∧ v (11 + p) ≤ 31) : Ct L (d + 1) k_X8_takeNow [vR 137, vI p] I (fun r J => r = some (vI (v (11 + p) / 4)) ∧ AL J (zup v (11 + p) (-1)) ∧ ∀ q, q ≠ 138 → J q = I q) := by
  show Go L (d + 1) k_X8_takeNow 0 [some (vR 137), some (vI p), none] [] I _
  refine g_l 1 rfl rfl ?_
  refine g_l 2 rfl rfl ?_
  refine g_callE rfl (m_lies hA hp) ?_ (hr := rcvM rfl)
  refine g_p 6 rfl rfl ?_
  refine g_div 7 rfl (by omega) (by omega) ?_
  refine g_l 8 rfl rfl ?_
  refine g_l 9 rfl rfl ?_
  refine g_fr rfl rfl ⟨⟨by decide, by omega, by decide⟩, by decide⟩ rfl ?_
  refine g_p 14 rfl rfl ?_
  refine g_l 15 rfl rfl ?_
  refine g_p 16 rfl rfl ?_
  refine g_p 17 rfl rfl ?_
  refine g_ias (11 + p) rfl rfl (by omega) (by omega) (by omega) ?_
  refine g_l 19 rfl rfl ?_
  refine g_ret rfl rfl ⟨rfl, fun k hk => ?_, fun q hq => zup2_ne hq⟩
  rw [zup2_fn]
  exact zup_pt (N := 19) hA rfl k hk
theorem m_takes {p : Int} (h : MI I v hs hn ct tx tl) (hp : rng p) : Ct L (d + 4) k_X8_takes [vR 137, vI p] I (PY I (sTake v p) v hs hn ct tx tl) := by
  have hf := fS_rng h.2.1
  have hok := ok_take (p := p) h.2.1
  show Go L (d + 4) k_X8_takes 0 [some (vR 137), some (vI p), none] [] I _
  refine g_l 1 rfl rfl ?_
  refine g_l 2 rfl rfl ?_
  refine g_callE rfl (m_canTake h.1 h.2.1 hp) ?_ (hr := rcvM rfl)
  have no : ∀ z, why3 z → cTake v p = z → sTake v p = (z, v) → Go L (d + 4) k_X8_takes 5 [some (vR 137), some (vI p), none] [vI (cTake v p)] I (PY I (sTake v p) v hs hn ct tx tl) := fun z hz h1 h2 => by
    rw [h1, h2]
    refine g_l 6 rfl rfl ?_
    refine g_l 7 rfl rfl ?_
    refine g_if_ge rfl (by omega) (fun g => ?_) (fun g => ?_)
    · exact absurd g (by omega)
    · refine g_l 11 rfl rfl ?_
      refine g_l 12 rfl rfl ?_
      refine g_call rfl (m_refuse hz h) (fun r J hJ => ?_) (hr := rcvM rfl)
      obtain ⟨rfl, hJ⟩ := hJ
      exact g_ret rfl rfl (PY.no hz hJ)
  by_cases h1 : 0 ≤ p ∧ p < fS v
  · by_cases h2 : v (11 + p.toNat) = -1
    · refine no (-3) (Or.inr (Or.inl rfl)) ?_ ?_
      · unfold cTake
        rw [if_pos h1, if_pos h2]
      · unfold sTake
        rw [if_pos (show 0 ≤ p ∧ p < v 9 * v 10 from h1), if_pos h2]
    · have e1 : cTake v p = 0 := by
        unfold cTake
        rw [if_pos h1, if_neg h2]
      have e2 : sTake v p = (v (11 + p.toNat) / 4, zup v (11 + p.toNat) (-1)) := by
        unfold sTake
        rw [if_pos (show 0 ≤ p ∧ p < v 9 * v 10 from h1), if_neg h2]
      have h4 := h.2.1.2.2.2.1 p.toNat (by omega)
      have h0 := h.2.1.1
      rw [e1, e2]
      rw [e2] at hok
      obtain ⟨pn, hpn⟩ := Int.eq_ofNat_of_zero_le h1.1
      subst hpn
      rw [Int.toNat_natCast] at h4 h2 hok ⊢
      refine g_l 6 rfl rfl ?_
      refine g_l 7 rfl rfl ?_
      refine g_if_ge rfl (by omega) (fun g => ?_) (fun g => ?_)
      · refine g_l 17 rfl rfl ?_
        refine g_call rfl (m_keep h) (fun r J hJ => ?_) (hr := rcvM rfl)
        obtain ⟨rfl, hJ⟩ := hJ
        refine g_l 21 rfl rfl ?_
        refine g_l 22 rfl rfl ?_
        refine g_call rfl (m_takeNow hJ.1.1 (by omega) ⟨by omega, by omega⟩) (fun r K hK => ?_) (hr := rcvM rfl)
        obtain ⟨rfl, k1, k2⟩ := hK
        exact g_ret rfl rfl (PY.yes (by omega) hJ k1 hok k2)
      · exact absurd (show (0 : Int) ≤ 0 by decide) g
  · refine no (-2) (Or.inl rfl) ?_ ?_
    · unfold cTake
      rw [if_neg h1]
    · unfold sTake
      rw [if_neg (show ¬ (0 ≤ p ∧ p < v 9 * v 10) from h1)]
end MC
