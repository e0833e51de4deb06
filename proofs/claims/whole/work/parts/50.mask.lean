/-! EdgeJoinModel: questions -/
theorem rv_rv : ∀ e, e < 256 → rv (rv ((e : Nat) : Int)) = ((e : Nat) : Int) := by decide +kernel
theorem rv_rng (e : Int) : 0 ≤ rv e ∧ rv e ≤ 255 := by
  have := rvF_rng e
  unfold rv
  omega
theorem rv_2 {e : Int} (h : 0 ≤ e ∧ e ≤ 255) : rv (rv e) = e := by
  obtain ⟨n, hn⟩ := Int.eq_ofNat_of_zero_le h.1
  subst hn
  exact rv_rv n (by omega)
/-- the edge as it is counted -/
def tdE (v : Nat → Int) (w : Int) (k : Nat) : Int := if w = 1 ∧ rv (fC v k) < fC v k then rv (fC v k) else fC v k
theorem tdE_iff {v : Nat → Int} {w : Int} (j k : Nat) (hw : w = 0 ∨ w = 1) : tdE v w j = tdE v w k ↔ (fC v j = fC v k ∨ w = 1 ∧ fC v j = rv (fC v k)) := by
  have r1 := fC_rng v j
  have r2 := fC_rng v k
  have a1 := rv_2 r1
  have a2 := rv_2 r2
  unfold tdE
  rcases hw with rfl | rfl
  · rw [if_neg (by omega), if_neg (by omega)]
    constructor
    · exact Or.inl
    · rintro (h | h)
      · exact h
      · exact absurd h.1 (by decide)
  · constructor
    · intro h
      by_cases c1 : rv (fC v j) < fC v j
      · rw [if_pos ⟨rfl, c1⟩] at h
        by_cases c2 : rv (fC v k) < fC v k
        · rw [if_pos ⟨rfl, c2⟩] at h
          exact Or.inl (by rw [← a1, ← a2, h])
        · rw [if_neg (fun z => c2 z.2)] at h
          exact Or.inr ⟨rfl, by rw [← h, a1]⟩
      · rw [if_neg (fun z => c1 z.2)] at h
        by_cases c2 : rv (fC v k) < fC v k
        · rw [if_pos ⟨rfl, c2⟩] at h
          exact Or.inr ⟨rfl, h⟩
        · rw [if_neg (fun z => c2 z.2)] at h
          exact Or.inl h
    · rintro (h | h)
      · rw [h]
      · have h2 := h.2
        have h3 : rv (fC v j) = fC v k := by rw [h2, a2]
        rw [h3, h2]
        by_cases c1 : rv (fC v k) < fC v k
        · rw [if_neg (by omega), if_pos ⟨rfl, c1⟩]
        · by_cases c2 : fC v k < rv (fC v k)
          · rw [if_pos ⟨rfl, c2⟩, if_neg (by omega)]
          · rw [if_neg (by omega), if_neg (by omega)]
            omega
section MA
variable {L d : Nat} {I : zI} {v : Nat → Int} {hs : Nat → Nat → Int} {hn : Nat} {ct tx : Nat → Int} {tl : Nat}
theorem m_isSide {s : Int} (hs1 : rng s) : Ev L (d + 1) k_X8_isSide [vI s] I (some (vI (b2i (0 ≤ s ∧ s < 4)))) I := by
  show Go L (d + 1) k_X8_isSide 0 [some (vI s)] [] I _
  have hb := b2i_r (0 ≤ s ∧ s < 4)
  refine g_l 1 rfl rfl ?_
  refine g_i2l 2 rfl (by omega) ?_
  refine g_lc0 3 rfl ?_
  refine g_ld2 6 rfl ?_
  refine g_callE rfl (m_in (by omega) (by decide) (by decide)) ?_
  rw [b2i_iff (show (0 ≤ s ∧ s ≤ 3) ↔ (0 ≤ s ∧ s < 4) by omega)]
  exact g_retb rfl rfl (by omega) ⟨rfl, rfl⟩
theorem m_cell {p x y : Int} (h : MI I v hs hn ct tx tl) (hp : rng p) (hx : rng x) (hy : rng y) : Ct L (d + 2) k_X8_cell [vR 137, vI p, vI x, vI y] I (PN I (qCell v p x y) v hs hn ct tx tl) := by
  have bad : ¬ ((0 ≤ p ∧ p < v 0) ∧ (0 ≤ x ∧ x < 4) ∧ 0 ≤ y ∧ y < 4) → Go L (d + 2) k_X8_cell 45 [some (vR 137), some (vI p), some (vI x), some (vI y)] [] I (PN I (qCell v p x y) v hs hn ct tx tl) := fun hno => by
    refine g_l 46 rfl rfl ?_
    refine g_p 48 rfl rfl ?_
    unfold qCell
    rw [if_neg hno]
    refine g_call rfl (m_refuse (Or.inl rfl) h) (fun r J hJ => ?_) (hr := rcvM rfl)
    obtain ⟨rfl, hJ⟩ := hJ
    exact g_ret rfl rfl ⟨rfl, hJ⟩
  have b1 := b2i_r (0 ≤ p ∧ p < v 0)
  have b2 := b2i_r (0 ≤ x ∧ x ≤ 3)
  have b3 := b2i_r (0 ≤ y ∧ y ≤ 3)
  have h0 := h.2.1.1
  show Go L (d + 2) k_X8_cell 0 [some (vR 137), some (vI p), some (vI x), some (vI y)] [] I _
  refine g_l 1 rfl rfl ?_
  refine g_l 2 rfl rfl ?_
  refine g_callE rfl (m_isPiece h.1 h.2.1 hp) ?_ (hr := rcvM rfl)
  refine g_if_eq rfl (by omega) (fun g1 => ?_) (fun g1 => ?_)
  · exact bad (fun z => b2i_0 g1 z.1)
  · have g1 := b2i_1 g1
    refine g_l 9 rfl rfl ?_
    refine g_i2l 10 rfl (by omega) ?_
    refine g_lc0 11 rfl ?_
    refine g_ld2 14 rfl ?_
    refine g_callE rfl (m_in (by omega) (by decide) (by decide)) ?_
    refine g_if_eq rfl (by omega) (fun g2 => ?_) (fun g2 => ?_)
    · exact bad (fun z => b2i_0 g2 (by omega))
    · have g2 := b2i_1 g2
      refine g_l 21 rfl rfl ?_
      refine g_i2l 22 rfl (by omega) ?_
      refine g_lc0 23 rfl ?_
      refine g_ld2 26 rfl ?_
      refine g_callE rfl (m_in (by omega) (by decide) (by decide)) ?_
      refine g_if_eq rfl (by omega) (fun g3 => ?_) (fun g3 => ?_)
      · exact bad (fun z => b2i_0 g3 (by omega))
      · have g3 := b2i_1 g3
        obtain ⟨pn, hpn⟩ := Int.eq_ofNat_of_zero_le g1.1
        subst hpn
        refine g_l 33 rfl rfl ?_
        refine g_l 34 rfl rfl ?_
        refine g_callE rfl (m_bits h.1 (by omega)) ?_ (hr := rcvM rfl)
        refine g_l 38 rfl rfl ?_
        refine g_l 39 rfl rfl ?_
        refine g_callE rfl m_colour ?_
        refine g_goto rfl ?_
        unfold qCell
        rw [if_pos ⟨g1, ⟨g2.1, by omega⟩, g3.1, by omega⟩]
        exact g_ret rfl rfl ⟨rfl, h, FrM.rf⟩
theorem m_of {p w : Int} (h : MI I v hs hn ct tx tl) (hp : rng p) (hw : rng w) : Ct L (d + 8) k_X8_of [vR 137, vI p, vI w] I (PN I (qOf v p w) v hs hn ct tx tl) := by
  have bad : ¬ ((0 ≤ p ∧ p < v 0) ∧ 0 ≤ w ∧ w < 5) → Go L (d + 8) k_X8_of 29 [some (vR 137), some (vI p), some (vI w)] [] I (PN I (qOf v p w) v hs hn ct tx tl) := fun hno => by
    refine g_l 30 rfl rfl ?_
    refine g_p 32 rfl rfl ?_
    unfold qOf
    rw [if_neg hno]
    refine g_call rfl (m_refuse (Or.inl rfl) h) (fun r J hJ => ?_) (hr := rcvM rfl)
    obtain ⟨rfl, hJ⟩ := hJ
    exact g_ret rfl rfl ⟨rfl, hJ⟩
  have b1 := b2i_r (0 ≤ p ∧ p < v 0)
  have b2 := b2i_r (0 ≤ w ∧ w ≤ 4)
  have hf := fN_le h.2.1
  show Go L (d + 8) k_X8_of 0 [some (vR 137), some (vI p), some (vI w)] [] I _
  refine g_l 1 rfl rfl ?_
  refine g_l 2 rfl rfl ?_
  refine g_callE rfl (m_isPiece h.1 h.2.1 hp) ?_ (hr := rcvM rfl)
  refine g_if_eq rfl (by omega) (fun g1 => ?_) (fun g1 => ?_)
  · exact bad (fun z => b2i_0 g1 z.1)
  · have g1 := b2i_1 g1
    refine g_l 9 rfl rfl ?_
    refine g_i2l 10 rfl (by omega) ?_
    refine g_lc0 11 rfl ?_
    refine g_ld2 14 rfl ?_
    refine g_callE rfl (m_in (by omega) (by decide) (by decide)) ?_
    refine g_if_eq rfl (by omega) (fun g2 => ?_) (fun g2 => ?_)
    · exact bad (fun z => b2i_0 g2 (by omega))
    · have g2 := b2i_1 g2
      obtain ⟨pn, hpn⟩ := Int.eq_ofNat_of_zero_le g1.1
      subst hpn
      refine g_l 21 rfl rfl ?_
      refine g_l 22 rfl rfl ?_
      refine g_l 23 rfl rfl ?_
      refine g_call rfl (m_ofPiece h.1 h.2.1 (by omega) ⟨by omega, by omega⟩) (fun r J hJ => ?_) (hr := rcvM rfl)
      obtain ⟨rfl, hJ⟩ := hJ
      refine g_goto rfl ?_
      unfold qOf
      rw [if_pos ⟨g1, by omega, by omega⟩]
      exact g_ret rfl rfl ⟨rfl, h.q hJ.q, hJ.q.m⟩
theorem m_edge {p s : Int} (h : MI I v hs hn ct tx tl) (hp : rng p) (hs1 : rng s) : Ct L (d + 3) k_X8_edge [vR 137, vI p, vI s] I (PN I (qEdge v p s) v hs hn ct tx tl) := by
  have bad : ¬ ((0 ≤ p ∧ p < v 0) ∧ 0 ≤ s ∧ s < 4) → Go L (d + 3) k_X8_edge 27 [some (vR 137), some (vI p), some (vI s)] [] I (PN I (qEdge v p s) v hs hn ct tx tl) := fun hno => by
    refine g_l 28 rfl rfl ?_
    refine g_p 30 rfl rfl ?_
    unfold qEdge
    rw [if_neg hno]
    refine g_call rfl (m_refuse (Or.inl rfl) h) (fun r J hJ => ?_) (hr := rcvM rfl)
    obtain ⟨rfl, hJ⟩ := hJ
    exact g_ret rfl rfl ⟨rfl, hJ⟩
  have b1 := b2i_r (0 ≤ p ∧ p < v 0)
  have b2 := b2i_r (0 ≤ s ∧ s < 4)
  have hf := fN_le h.2.1
  show Go L (d + 3) k_X8_edge 0 [some (vR 137), some (vI p), some (vI s)] [] I _
  refine g_l 1 rfl rfl ?_
  refine g_l 2 rfl rfl ?_
  refine g_callE rfl (m_isPiece h.1 h.2.1 hp) ?_ (hr := rcvM rfl)
  refine g_if_eq rfl (by omega) (fun g1 => ?_) (fun g1 => ?_)
  · exact bad (fun z => b2i_0 g1 z.1)
  · have g1 := b2i_1 g1
    refine g_l 9 rfl rfl ?_
    refine g_callE rfl (m_isSide hs1) ?_
    refine g_if_eq rfl (by omega) (fun g2 => ?_) (fun g2 => ?_)
    · exact bad (fun z => b2i_0 g2 z.2)
    · have g2 := b2i_1 g2
      obtain ⟨pn, hpn⟩ := Int.eq_ofNat_of_zero_le g1.1
      obtain ⟨sn, hsn⟩ := Int.eq_ofNat_of_zero_le g2.1
      subst hpn
      subst hsn
      refine g_l 16 rfl rfl ?_
      refine g_l 17 rfl rfl ?_
      refine g_callE rfl (m_bits h.1 (by omega)) ?_ (hr := rcvM rfl)
      refine g_l 21 rfl rfl ?_
      refine g_callE rfl (m_edgeOf (by omega)) ?_
      refine g_goto rfl ?_
      unfold qEdge
      rw [if_pos ⟨g1, g2⟩, show (4 * (pn : Int) + (sn : Int)).toNat = 4 * pn + sn by omega, fC_ps (by omega) (by omega)]
      exact g_ret rfl rfl ⟨rfl, h, FrM.rf⟩
theorem m_unlike {p s q t : Int} (h : MI I v hs hn ct tx tl) (hp : rng p) (hs1 : rng s) (hq : rng q) (ht : rng t) : Ct L (d + 3) k_X8_unlike [vR 137, vI p, vI s, vI q, vI t] I (PN I (qUnl v p s q t) v hs hn ct tx tl) := by
  have bad : ¬ ((0 ≤ p ∧ p < v 0) ∧ (0 ≤ s ∧ s < 4) ∧ (0 ≤ q ∧ q < v 0) ∧ (0 ≤ t ∧ t < 4) ∧ p ≠ q) → Go L (d + 3) k_X8_unlike 48 [some (vR 137), some (vI p), some (vI s), some (vI q), some (vI t)] [] I (PN I (qUnl v p s q t) v hs hn ct tx tl) := fun hno => by
    refine g_l 49 rfl rfl ?_
    refine g_p 51 rfl rfl ?_
    unfold qUnl
    rw [if_neg hno]
    refine g_call rfl (m_refuse (Or.inl rfl) h) (fun r J hJ => ?_) (hr := rcvM rfl)
    obtain ⟨rfl, hJ⟩ := hJ
    exact g_ret rfl rfl ⟨rfl, hJ⟩
  have b1 := b2i_r (0 ≤ p ∧ p < v 0)
  have b2 := b2i_r (0 ≤ s ∧ s < 4)
  have b3 := b2i_r (0 ≤ q ∧ q < v 0)
  have b4 := b2i_r (0 ≤ t ∧ t < 4)
  have hf := fN_le h.2.1
  show Go L (d + 3) k_X8_unlike 0 [some (vR 137), some (vI p), some (vI s), some (vI q), some (vI t)] [] I _
  refine g_l 1 rfl rfl ?_
  refine g_l 2 rfl rfl ?_
  refine g_callE rfl (m_isPiece h.1 h.2.1 hp) ?_ (hr := rcvM rfl)
  refine g_if_eq rfl (by omega) (fun g1 => ?_) (fun g1 => ?_)
  · exact bad (fun z => b2i_0 g1 z.1)
  · have g1 := b2i_1 g1
    refine g_l 9 rfl rfl ?_
    refine g_callE rfl (m_isSide hs1) ?_
    refine g_if_eq rfl (by omega) (fun g2 => ?_) (fun g2 => ?_)
    · exact bad (fun z => b2i_0 g2 z.2.1)
    · have g2 := b2i_1 g2
      refine g_l 16 rfl rfl ?_
      refine g_l 17 rfl rfl ?_
      refine g_callE rfl (m_isPiece h.1 h.2.1 hq) ?_ (hr := rcvM rfl)
      refine g_if_eq rfl (by omega) (fun g3 => ?_) (fun g3 => ?_)
      · exact bad (fun z => b2i_0 g3 z.2.2.1)
      · have g3 := b2i_1 g3
        refine g_l 25 rfl rfl ?_
        refine g_callE rfl (m_isSide ht) ?_
        refine g_if_eq rfl (by omega) (fun g4 => ?_) (fun g4 => ?_)
        · exact bad (fun z => b2i_0 g4 z.2.2.2.1)
        · have g4 := b2i_1 g4
          refine g_l 32 rfl rfl ?_
          refine g_l 33 rfl rfl ?_
          refine g_ic_eq rfl (by omega) (by omega) (fun g5 => ?_) (fun g5 => ?_)
          · exact bad (fun z => z.2.2.2.2 g5)
          · obtain ⟨pn, hpn⟩ := Int.eq_ofNat_of_zero_le g1.1
            obtain ⟨sn, hsn⟩ := Int.eq_ofNat_of_zero_le g2.1
            obtain ⟨qn, hqn⟩ := Int.eq_ofNat_of_zero_le g3.1
            obtain ⟨tn, htn⟩ := Int.eq_ofNat_of_zero_le g4.1
            subst hpn
            subst hsn
            subst hqn
            subst htn
            refine g_l 37 rfl rfl ?_
            refine g_l 38 rfl rfl ?_
            refine g_l 39 rfl rfl ?_
            refine g_l 40 rfl rfl ?_
            refine g_l 42 rfl rfl ?_
            refine g_callE rfl (m_unlikeOf h.1 (by omega) (by omega) (by omega) (by omega)) ?_ (hr := rcvM rfl)
            refine g_goto rfl ?_
            unfold qUnl
            rw [if_pos ⟨g1, g2, g3, g4, g5⟩, show (4 * (pn : Int) + (sn : Int)).toNat = 4 * pn + sn by omega, show (4 * (qn : Int) + (tn : Int)).toNat = 4 * qn + tn by omega, fC_ps (by omega) (by omega), fC_ps (by omega) (by omega)]
            exact g_ret rfl rfl ⟨rfl, h, FrM.rf⟩
theorem m_mate {p s : Int} (h : MI I v hs hn ct tx tl) (hp : rng p) (hs1 : rng s) : Ct L (d + 5) k_X8_mate [vR 137, vI p, vI s] I (PN I (qMate v p s) v hs hn ct tx tl) := by
  have bad : ¬ ((0 ≤ p ∧ p < v 0) ∧ 0 ≤ s ∧ s < 4) → Go L (d + 5) k_X8_mate 15 [some (vR 137), some (vI p), some (vI s)] [] I (PN I (qMate v p s) v hs hn ct tx tl) := fun hno => by
    refine g_l 16 rfl rfl ?_
    refine g_p 18 rfl rfl ?_
    unfold qMate
    rw [if_neg hno]
    refine g_call rfl (m_refuse (Or.inl rfl) h) (fun r J hJ => ?_) (hr := rcvM rfl)
    obtain ⟨rfl, hJ⟩ := hJ
    exact g_ret rfl rfl ⟨rfl, hJ⟩
  have b1 := b2i_r (0 ≤ p ∧ p < v 0)
  have b2 := b2i_r (0 ≤ s ∧ s < 4)
  have hf := fN_le h.2.1
  show Go L (d + 5) k_X8_mate 0 [some (vR 137), some (vI p), some (vI s)] [] I _
  refine g_l 1 rfl rfl ?_
  refine g_l 2 rfl rfl ?_
  refine g_callE rfl (m_isPiece h.1 h.2.1 hp) ?_ (hr := rcvM rfl)
  refine g_if_eq rfl (by omega) (fun g1 => ?_) (fun g1 => ?_)
  · exact bad (fun z => b2i_0 g1 z.1)
  · have g1 := b2i_1 g1
    refine g_l 9 rfl rfl ?_
    refine g_callE rfl (m_isSide hs1) ?_
    refine g_if_ne rfl (by omega) (fun g2 => ?_) (fun g2 => ?_)
    · have g2 := b2i_1 g2
      obtain ⟨pn, hpn⟩ := Int.eq_ofNat_of_zero_le g1.1
      obtain ⟨sn, hsn⟩ := Int.eq_ofNat_of_zero_le g2.1
      subst hpn
      subst hsn
      have b3 := b2i_r (fC v (4 * pn + sn) = 0)
      refine g_l 23 rfl rfl ?_
      refine g_l 24 rfl rfl ?_
      refine g_l 25 rfl rfl ?_
      refine g_callE rfl (m_isFlat h.1 hf.1 (by omega) (by omega)) ?_ (hr := rcvM rfl)
      unfold qMate
      rw [if_pos ⟨g1, g2⟩, show (4 * (pn : Int) + (sn : Int)).toNat = 4 * pn + sn by omega]
      refine g_if_eq rfl (by omega) (fun g3 => ?_) (fun g3 => ?_)
      · have g3 := b2i_0 g3
        rw [if_neg g3, fM_k, if_neg g3]
        refine g_l 41 rfl rfl ?_
        refine g_l 42 rfl rfl ?_
        refine g_l 43 rfl rfl ?_
        refine g_callE rfl (m_mateOf h.1 h.2.1 (by omega) (by omega)) ?_ (hr := rcvM rfl)
        exact g_ret rfl rfl ⟨rfl, h, FrM.rf⟩
      · rw [if_pos (b2i_1 g3)]
        refine g_l 32 rfl rfl ?_
        refine g_p 34 rfl rfl ?_
        refine g_call rfl (m_refuse (Or.inr (Or.inl rfl)) h) (fun r J hJ => ?_) (hr := rcvM rfl)
        obtain ⟨rfl, hJ⟩ := hJ
        refine g_goto rfl ?_
        exact g_ret rfl rfl ⟨rfl, hJ⟩
    · exact bad (fun z => b2i_0 (Decidable.not_not.mp g2) z.2)
theorem m_pairsOf {i : Int} (hA : AL I v) (ho : OKv v) (hi : -1 ≤ i ∧ i ≤ 2147483647) : Ct L (d + 6) k_X8_pairsOf [vR 137, vI i] I (fun r J => r = some (vI (prA v i)) ∧ FrB I J) := by
  have hf := fN_le ho
  show Go L (d + 6) k_X8_pairsOf 0 [some (vR 137), some (vI i), none, none] [] I _
  refine g_l 1 rfl rfl ?_
  refine g_call rfl (m_laysMates hA ho) (fun r J hJ => ?_) (hr := rcvM rfl)
  obtain ⟨rfl, jM, j2⟩ := hJ
  have jF : FrB I J := fun q q1 _ => j2 q q1
  have jA := jF.al hA
  have key : ∀ (m k : Nat) (c : Int), k + m = 4 * fN v → 0 ≤ c → c ≤ k → Go L (d + 6) k_X8_pairsOf 8 [some (vR 137), some (vI i), some (vI c), some (vI k)] [] J (fun r J => r = some (vI (if i = -1 then c + cpF (fM v) m k else fpF (fM v) i m k c)) ∧ FrB I J) := by
    intro m
    induction m with
    | zero =>
      intro k c hk c0 ck
      refine g_l 9 rfl rfl ?_
      refine g_p 10 rfl rfl ?_
      refine g_l 11 rfl rfl ?_
      refine g_callE rfl (m_many jA) ?_ (hr := rcvM rfl)
      refine g_p 15 rfl rfl ?_
      refine g_ic_ge rfl (by omega) (by omega) (fun g => ?_) (fun g => ?_)
      · refine g_l 63 rfl rfl ?_
        refine g_p 64 rfl rfl ?_
        refine g_ic_ne rfl (by omega) (by omega) (fun g2 => ?_) (fun g2 => ?_)
        · refine g_p 73 rfl rfl ?_
          rw [if_neg g2]
          exact g_ret rfl rfl ⟨rfl, jF⟩
        · refine g_l 68 rfl rfl ?_
          refine g_goto rfl ?_
          rw [if_pos (Decidable.not_not.mp g2)]
          exact g_ret rfl rfl ⟨by simp [cpF], jF⟩
      · exact absurd g (by omega)
    | succ m ih =>
      intro k c hk c0 ck
      have hr := fM_rng v k
      have hb := b2i_r (prP v k)
      have skip : ¬ lowP (fM v) k → Go L (d + 6) k_X8_pairsOf 56 [some (vR 137), some (vI i), some (vI c), some (vI k)] [] J (fun r J => r = some (vI (if i = -1 then c + cpF (fM v) (m + 1) k else fpF (fM v) i (m + 1) k c)) ∧ FrB I J) := fun hno => by
        refine g_l 59 rfl rfl ?_
        refine g_goto rfl ?_
        rw [cpF, fpF, if_neg hno, if_neg hno, Int.zero_add]
        exact ih (k + 1) c (by omega) c0 (by omega)
      refine g_l 9 rfl rfl ?_
      refine g_p 10 rfl rfl ?_
      refine g_l 11 rfl rfl ?_
      refine g_callE rfl (m_many jA) ?_ (hr := rcvM rfl)
      refine g_p 15 rfl rfl ?_
      refine g_ic_ge rfl (by omega) (by omega) (fun g => ?_) (fun g => ?_)
      · exact absurd g (by omega)
      · refine g_l 19 rfl rfl ?_
        refine g_l 20 rfl rfl ?_
        refine g_callE rfl (m_isPair hf.1 (by omega) jM) ?_ (hr := rcvM rfl)
        refine g_if_eq rfl (by omega) (fun g1 => ?_) (fun g1 => ?_)
        · exact skip (fun z => b2i_0 g1 ⟨by have := z.1; omega, z.2⟩)
        · have g1 := b2i_1 g1
          refine g_l 27 rfl rfl ?_
          refine g_fr rfl rfl ⟨⟨by decide, by omega, by decide⟩, by decide⟩ rfl ?_
          refine g_l 31 rfl rfl ?_
          refine g_ia k rfl rfl rfl (by omega) ?_
          rw [jM k (by omega)]
          refine g_l 33 rfl rfl ?_
          refine g_ic_le rfl (by omega) (by omega) (fun g2 => ?_) (fun g2 => ?_)
          · exact skip (fun z => absurd z.1 (by omega))
          · have hl : lowP (fM v) k := ⟨by omega, g1.2⟩
            refine g_l 37 rfl rfl ?_
            refine g_l 38 rfl rfl ?_
            refine g_ic_ne rfl (by omega) (by omega) (fun g3 => ?_) (fun g3 => ?_)
            · refine g_l 56 rfl rfl ?_
              refine g_l 59 rfl rfl ?_
              refine g_goto rfl ?_
              rw [cpF, fpF, if_pos hl, if_pos hl, if_neg g3, ← Int.add_assoc]
              exact ih (k + 1) (c + 1) (by omega) (by omega) (by omega)
            · have g3 := Decidable.not_not.mp g3
              refine g_p 43 rfl rfl ?_
              refine g_l 44 rfl rfl ?_
              refine g_p 45 rfl rfl ?_
              refine g_l 46 rfl rfl ?_
              refine g_fr rfl rfl ⟨⟨by decide, by omega, by decide⟩, by decide⟩ rfl ?_
              refine g_l 50 rfl rfl ?_
              refine g_ia k rfl rfl rfl (by omega) ?_
              rw [jM k (by omega)]
              refine g_p 52 rfl rfl ?_
              rw [fpF, if_pos hl, if_pos g3, if_neg (by omega)]
              exact g_ret rfl rfl ⟨rfl, jF⟩
  refine g_p 5 rfl rfl ?_
  refine g_l 6 rfl rfl ?_
  refine g_p 7 rfl rfl ?_
  refine g_l 8 rfl rfl ?_
  have h := key (4 * fN v) 0 0 (by omega) (by omega) (by omega)
  rw [Int.zero_add] at h
  exact h
theorem m_pairs {i : Int} (h : MI I v hs hn ct tx tl) (hi : rng i) : Ct L (d + 7) k_X8_pairs [vR 137, vI i] I (PN I (qPairs v i) v hs hn ct tx tl) := by
  show Go L (d + 7) k_X8_pairs 0 [some (vR 137), some (vI i)] [] I _
  unfold qPairs
  refine g_l 1 rfl rfl ?_
  refine g_p 2 rfl rfl ?_
  refine g_ic_ge rfl (by omega) (by omega) (fun g => ?_) (fun g => ?_)
  · rw [if_neg (by omega)]
    refine g_l 15 rfl rfl ?_
    refine g_l 16 rfl rfl ?_
    refine g_call rfl (m_pairsOf h.1 h.2.1 ⟨by omega, hi.2⟩) (fun r J hJ => ?_) (hr := rcvM rfl)
    obtain ⟨rfl, hJ⟩ := hJ
    exact g_ret rfl rfl ⟨rfl, h.q hJ.q, hJ.q.m⟩
  · rw [if_pos (by omega)]
    refine g_l 6 rfl rfl ?_
    refine g_p 8 rfl rfl ?_
    refine g_call rfl (m_refuse (Or.inl rfl) h) (fun r J hJ => ?_) (hr := rcvM rfl)
    obtain ⟨rfl, hJ⟩ := hJ
    refine g_goto rfl ?_
    exact g_ret rfl rfl ⟨rfl, hJ⟩
theorem m_groupsB (hA : AL I v) (ho : OKv v) : Ct L (d + 7) k_X8_groups [vR 137] I (fun r J => r = some (vI (gpA v)) ∧ FrB I J) := by
  have hf := fN_le ho
  show Go L (d + 7) k_X8_groups 0 [some (vR 137), none, none] [] I _
  refine g_l 1 rfl rfl ?_
  refine g_call rfl (m_laysGroups hA ho) (fun r J hJ => ?_) (hr := rcvM rfl)
  obtain ⟨rfl, jG, jF⟩ := hJ
  have jA := jF.al hA
  have key : ∀ (m p : Nat) (x : Int), p + m = fN v → Go L (d + 7) k_X8_groups 8 [some (vR 137), some (vI x), some (vI p)] [] J (fun r J => r = some (vI (x + cgF (fG v) m p)) ∧ FrB I J) := by
    intro m
    induction m with
    | zero =>
      intro p x hp
      refine g_l 9 rfl rfl ?_
      refine g_l 10 rfl rfl ?_
      refine g_callE rfl (m_many jA) ?_ (hr := rcvM rfl)
      refine g_ic_ge rfl (by omega) (by omega) (fun g => ?_) (fun g => ?_)
      · refine g_l 41 rfl rfl ?_
        exact g_ret rfl rfl ⟨by simp [cgF], jF⟩
      · exact absurd g (by omega)
    | succ m ih =>
      intro p x hp
      have hg := fG_rng v hf.1 p (by omega)
      refine g_l 9 rfl rfl ?_
      refine g_l 10 rfl rfl ?_
      refine g_callE rfl (m_many jA) ?_ (hr := rcvM rfl)
      refine g_ic_ge rfl (by omega) (by omega) (fun g => ?_) (fun g => ?_)
      · exact absurd g (by omega)
      · refine g_l 17 rfl rfl ?_
        refine g_l 18 rfl rfl ?_
        refine g_fr rfl rfl ⟨⟨by decide, by omega, by decide⟩, by decide⟩ rfl ?_
        refine g_l 22 rfl rfl ?_
        refine g_ia p rfl rfl rfl (by omega) ?_
        rw [jG p (by omega)]
        refine g_l 24 rfl rfl ?_
        refine g_ic_ne rfl (by omega) (by omega) (fun g2 => ?_) (fun g2 => ?_)
        · refine g_p 32 rfl rfl ?_
          refine g_p 33 rfl rfl ?_
          refine g_l 34 rfl rfl ?_
          refine g_l 37 rfl rfl ?_
          refine g_goto rfl ?_
          rw [cgF, if_neg g2, ← Int.add_assoc]
          exact ih (p + 1) _ (by omega)
        · refine g_p 28 rfl rfl ?_
          refine g_goto rfl ?_
          refine g_p 33 rfl rfl ?_
          refine g_l 34 rfl rfl ?_
          refine g_l 37 rfl rfl ?_
          refine g_goto rfl ?_
          rw [cgF, if_pos (Decidable.not_not.mp g2), ← Int.add_assoc]
          exact ih (p + 1) _ (by omega)
  refine g_p 5 rfl rfl ?_
  refine g_l 6 rfl rfl ?_
  refine g_p 7 rfl rfl ?_
  refine g_l 8 rfl rfl ?_
  have h := key (fN v) 0 0 (by omega)
  rw [Int.zero_add] at h
  exact h
theorem m_groups (h : MI I v hs hn ct tx tl) : Ct L (d + 7) k_X8_groups [vR 137] I (PN I (gpA v, 0) v hs hn ct tx tl) :=
  Go.mono (m_groupsB h.1 h.2.1) (fun r J hJ => ⟨hJ.1, h.q hJ.2.q, hJ.2.q.m⟩)
theorem m_backwards {e : Nat} (he : e < 256) : Ev L d k_X8_backwards [vI e] I (some (vI (rv e))) I := by
  have key : ∀ (m k : Nat), k + m = 4 → Go L d k_X8_backwards 6 [some (vI e), some (vI (rvF e k)), some (vI ((e / 4 ^ k : Nat) : Int)), some (vI k)] [] I (fun r J => r = some (vI (rv e)) ∧ J = I) := by
    intro m
    induction m with
    | zero =>
      intro k hk
      have hk : k = 4 := by omega
      subst hk
      refine g_l 7 rfl rfl ?_
      refine g_p 8 rfl rfl ?_
      refine g_ic_ge rfl (by omega) (by omega) (fun g => ?_) (fun g => ?_)
      · refine g_l 30 rfl rfl ?_
        exact g_ret rfl rfl ⟨rfl, rfl⟩
      · exact absurd g (by omega)
    | succ m ih =>
      intro k hk
      have hle : e / 4 ^ k ≤ e := Nat.div_le_self _ _
      have e1 : 4 * rvF e k + ((e / 4 ^ k : Nat) : Int) % 4 = rvF e (k + 1) := by
        rw [rvF, col_dig e he k (by omega)]
        omega
      have e2 : ((e / 4 ^ k : Nat) : Int) / 4 = ((e / 4 ^ (k + 1) : Nat) : Int) := by
        rw [Nat.pow_succ, ← Nat.div_div_eq_div_mul]
        omega
      refine g_l 7 rfl rfl ?_
      refine g_p 8 rfl rfl ?_
      refine g_ic_ge rfl (by omega) (by omega) (fun g => ?_) (fun g => ?_)
      · exact absurd g (by omega)
      · generalize e / 4 ^ k = x at hle e1 e2 ⊢
        refine g_p 12 rfl rfl ?_
        refine g_l 13 rfl rfl ?_
        refine g_p 14 rfl rfl ?_
        refine g_l 15 rfl rfl ?_
        refine g_p 16 rfl rfl ?_
        refine g_rem 17 rfl (by omega) (by omega) ?_
        refine g_p 18 rfl rfl ?_
        refine g_l 19 rfl rfl ?_
        refine g_l 20 rfl rfl ?_
        refine g_p 21 rfl rfl ?_
        refine g_div 22 rfl (by omega) (by omega) ?_
        refine g_l 23 rfl rfl ?_
        refine g_l 26 rfl rfl ?_
        refine g_goto rfl ?_
        rw [e1, e2]
        exact ih (k + 1) (by omega)
  show Go L d k_X8_backwards 0 [some (vI e), none, none, none] [] I _
  refine g_p 1 rfl rfl ?_
  refine g_l 2 rfl rfl ?_
  refine g_l 3 rfl rfl ?_
  refine g_l 4 rfl rfl ?_
  refine g_p 5 rfl rfl ?_
  refine g_l 6 rfl rfl ?_
  have h := key 4 0 (by omega)
  rw [show e / 4 ^ 0 = e from Nat.div_one e] at h
  exact h
theorem m_toldEdge {k : Nat} {w : Int} (hA : AL I v) (h8 : fN v ≤ 8) (hk : k < 4 * fN v) (hw : w = 0 ∨ w = 1) : Ev L (d + 3) k_X8_toldEdge [vR 137, vI k, vI w] I (some (vI (tdE v w k))) I := by
  have hr := fC_rng v k
  have hv := rv_rng (fC v k)
  have ed : (k : Int) / 4 = ((k / 4 : Nat) : Int) := by omega
  have er : (k : Int) % 4 = ((k % 4 : Nat) : Int) := by omega
  obtain ⟨e, he⟩ := Int.eq_ofNat_of_zero_le hr.1
  show Go L (d + 3) k_X8_toldEdge 0 [some (vR 137), some (vI k), some (vI w), none] [] I _
  refine g_l 1 rfl rfl ?_
  refine g_l 2 rfl rfl ?_
  refine g_p 3 rfl rfl ?_
  refine g_div 4 rfl (by omega) (by omega) ?_
  rw [ed]
  refine g_callE rfl (m_bits hA (by omega)) ?_ (hr := rcvM rfl)
  refine g_l 8 rfl rfl ?_
  refine g_p 9 rfl rfl ?_
  refine g_rem 10 rfl (by omega) (by omega) ?_
  rw [er]
  refine g_callE rfl (m_edgeOf (by omega)) ?_
  rw [← fC_k hk]
  unfold tdE
  rw [he] at hr hv ⊢
  refine g_l 14 rfl rfl ?_
  refine g_l 15 rfl rfl ?_
  refine g_p 16 rfl rfl ?_
  refine g_ic_ne rfl (by omega) (by omega) (fun g => ?_) (fun g => ?_)
  · refine g_l 35 rfl rfl ?_
    rw [if_neg (fun z => g z.1)]
    exact g_ret rfl rfl ⟨rfl, rfl⟩
  · have g := Decidable.not_not.mp g
    refine g_l 20 rfl rfl ?_
    refine g_callE rfl (m_backwards (by omega)) ?_
    refine g_l 24 rfl rfl ?_
    refine g_ic_ge rfl (by omega) (by omega) (fun g2 => ?_) (fun g2 => ?_)
    · refine g_l 35 rfl rfl ?_
      rw [if_neg (fun z => absurd z.2 (by omega))]
      exact g_ret rfl rfl ⟨rfl, rfl⟩
    · refine g_l 28 rfl rfl ?_
      refine g_callE rfl (m_backwards (by omega)) ?_
      refine g_goto rfl ?_
      rw [if_pos ⟨g, by omega⟩]
      exact g_ret rfl rfl ⟨rfl, rfl⟩
theorem tdE_rng (v : Nat → Int) (w : Int) (k : Nat) : 0 ≤ tdE v w k ∧ tdE v w k ≤ 255 := by
  have hr := fC_rng v k
  have hv := rv_rng (fC v k)
  unfold tdE
  split <;> omega
theorem m_edgesOf {w : Int} (hA : AL I v) (ho : OKv v) (hw : w = 0 ∨ w = 1) : Ev L (d + 4) k_X8_edgesOf [vR 137, vI w] I (some (vI (edA v w))) I := by
  have hf := fN_le ho
  have key : ∀ (m k : Nat) (x : Int) (o4 o5 : Option zV), k + m = 4 * fN v → Go L (d + 4) k_X8_edgesOf 4 [some (vR 137), some (vI w), some (vI x), some (vI k), o4, o5] [] I (fun r J => r = some (vI (x + ceF (fC v) w m k)) ∧ J = I) := by
    intro m
    induction m with
    | zero =>
      intro k x o4 o5 hk
      refine g_l 5 rfl rfl ?_
      refine g_p 6 rfl rfl ?_
      refine g_l 7 rfl rfl ?_
      refine g_callE rfl (m_many hA) ?_ (hr := rcvM rfl)
      refine g_p 11 rfl rfl ?_
      refine g_ic_ge rfl (by omega) (by omega) (fun g => ?_) (fun g => ?_)
      · refine g_l 80 rfl rfl ?_
        exact g_ret rfl rfl ⟨by simp [ceF], rfl⟩
      · exact absurd g (by omega)
    | succ m ih =>
      intro k x o4 o5 hk
      have inner : ∀ (j2 j : Nat) (b : Int), j + j2 = k → (b = 0 ∨ b = 1) → (b = 1 ∧ ¬ sbF (fC v) w k j2 j ↔ ¬ sbF (fC v) w k k 0) → Go L (d + 4) k_X8_edgesOf 20 [some (vR 137), some (vI w), some (vI x), some (vI k), some (vI b), some (vI j)] [] I (fun r J => r = some (vI (x + ceF (fC v) w (m + 1) k)) ∧ J = I) := by
        intro j2
        induction j2 with
        | zero =>
          intro j b hj hb hbi
          refine g_l 22 rfl rfl ?_
          refine g_l 23 rfl rfl ?_
          refine g_ic_ge rfl (by omega) (by omega) (fun g => ?_) (fun g => ?_)
          · refine g_l 61 rfl rfl ?_
            refine g_l 63 rfl rfl ?_
            refine g_if_eq rfl (by omega) (fun g2 => ?_) (fun g2 => ?_)
            · refine g_p 71 rfl rfl ?_
              refine g_p 72 rfl rfl ?_
              refine g_l 73 rfl rfl ?_
              refine g_l 76 rfl rfl ?_
              refine g_goto rfl ?_
              have hyes : sbF (fC v) w k k 0 := Classical.byContradiction (fun hno => by have := (hbi.mpr hno).1; omega)
              rw [ceF, if_pos hyes, ← Int.add_assoc]
              exact ih (k + 1) _ _ _ (by omega)
            · refine g_p 67 rfl rfl ?_
              refine g_goto rfl ?_
              refine g_p 72 rfl rfl ?_
              refine g_l 73 rfl rfl ?_
              refine g_l 76 rfl rfl ?_
              refine g_goto rfl ?_
              have hno : ¬ sbF (fC v) w k k 0 := hbi.mp ⟨by omega, fun z => z⟩
              rw [ceF, if_neg hno, ← Int.add_assoc]
              exact ih (k + 1) _ _ _ (by omega)
          · exact absurd g (by omega)
        | succ j2 ih2 =>
          intro j b hj hb hbi
          have t1 := tdE_rng v w j
          have t2 := tdE_rng v w k
          have hif := tdE_iff (v := v) j k hw
          have hs : sbF (fC v) w k (j2 + 1) j ↔ ((fC v j = fC v k ∨ w = 1 ∧ fC v j = rv (fC v k)) ∨ sbF (fC v) w k j2 (j + 1)) := Iff.rfl
          have out : (b = 0 ∨ tdE v w j = tdE v w k) → Go L (d + 4) k_X8_edgesOf 51 [some (vR 137), some (vI w), some (vI x), some (vI k), some (vI b), some (vI j)] [] I (fun r J => r = some (vI (x + ceF (fC v) w (m + 1) k)) ∧ J = I) := fun hc => by
            refine g_p 52 rfl rfl ?_
            refine g_l 54 rfl rfl ?_
            refine g_l 57 rfl rfl ?_
            refine g_goto rfl ?_
            refine ih2 (j + 1) 0 (by omega) (Or.inl rfl) ⟨fun z => absurd z.1 (by decide), fun z => ?_⟩
            have z2 := hbi.mpr z
            rcases hc with hc | hc
            · exact absurd z2.1 (by omega)
            · exact absurd (hs.mpr (Or.inl (hif.mp hc))) z2.2
          refine g_l 22 rfl rfl ?_
          refine g_l 23 rfl rfl ?_
          refine g_ic_ge rfl (by omega) (by omega) (fun g => ?_) (fun g => ?_)
          · exact absurd g (by omega)
          · refine g_l 28 rfl rfl ?_
            refine g_if_eq rfl (by omega) (fun g2 => ?_) (fun g2 => ?_)
            · exact out (Or.inl g2)
            · refine g_l 32 rfl rfl ?_
              refine g_l 34 rfl rfl ?_
              refine g_l 35 rfl rfl ?_
              refine g_callE rfl (m_toldEdge hA hf.1 (by omega) hw) ?_ (hr := rcvM rfl)
              refine g_l 39 rfl rfl ?_
              refine g_l 40 rfl rfl ?_
              refine g_l 41 rfl rfl ?_
              refine g_callE rfl (m_toldEdge hA hf.1 (by omega) hw) ?_ (hr := rcvM rfl)
              refine g_ic_eq rfl (by omega) (by omega) (fun g3 => ?_) (fun g3 => ?_)
              · exact out (Or.inr g3)
              · refine g_p 48 rfl rfl ?_
                refine g_goto rfl ?_
                refine g_l 54 rfl rfl ?_
                refine g_l 57 rfl rfl ?_
                refine g_goto rfl ?_
                refine ih2 (j + 1) 1 (by omega) (Or.inr rfl) ⟨fun z => hbi.mp ⟨by omega, fun y => ?_⟩, fun z => ⟨rfl, fun y => (hbi.mpr z).2 (hs.mpr (Or.inr y))⟩⟩
                rcases hs.mp y with y | y
                · exact g3 (hif.mpr y)
                · exact z.2 y
      refine g_l 5 rfl rfl ?_
      refine g_p 6 rfl rfl ?_
      refine g_l 7 rfl rfl ?_
      refine g_callE rfl (m_many hA) ?_ (hr := rcvM rfl)
      refine g_p 11 rfl rfl ?_
      refine g_ic_ge rfl (by omega) (by omega) (fun g => ?_) (fun g => ?_)
      · exact absurd g (by omega)
      · refine g_p 15 rfl rfl ?_
        refine g_l 17 rfl rfl ?_
        refine g_p 18 rfl rfl ?_
        refine g_l 20 rfl rfl ?_
        exact inner k 0 1 (by omega) (Or.inr rfl) ⟨fun z => z.2, fun z => ⟨rfl, z⟩⟩
  show Go L (d + 4) k_X8_edgesOf 0 [some (vR 137), some (vI w), none, none, none, none] [] I _
  refine g_p 1 rfl rfl ?_
  refine g_l 2 rfl rfl ?_
  refine g_p 3 rfl rfl ?_
  refine g_l 4 rfl rfl ?_
  have h := key (4 * fN v) 0 0 none none (by omega)
  rw [Int.zero_add] at h
  exact h
theorem m_edges {w : Int} (h : MI I v hs hn ct tx tl) (hw : rng w) : Ct L (d + 5) k_X8_edges [vR 137, vI w] I (PN I (qEdges v w) v hs hn ct tx tl) := by
  have b1 := b2i_r (0 ≤ w ∧ w ≤ 1)
  show Go L (d + 5) k_X8_edges 0 [some (vR 137), some (vI w)] [] I _
  unfold qEdges
  refine g_l 1 rfl rfl ?_
  refine g_i2l 2 rfl (by omega) ?_
  refine g_lc0 3 rfl ?_
  refine g_lc1 4 rfl ?_
  refine g_callE rfl (m_in (by omega) (by decide) (by decide)) ?_
  refine g_if_eq rfl (by omega) (fun g => ?_) (fun g => ?_)
  · have g := b2i_0 g
    rw [if_neg (by omega)]
    refine g_l 19 rfl rfl ?_
    refine g_p 21 rfl rfl ?_
    refine g_call rfl (m_refuse (Or.inl rfl) h) (fun r J hJ => ?_) (hr := rcvM rfl)
    obtain ⟨rfl, hJ⟩ := hJ
    exact g_ret rfl rfl ⟨rfl, hJ⟩
  · have g := b2i_1 g
    have hw2 : w = 0 ∨ w = 1 := by omega
    rw [if_pos hw2]
    refine g_l 11 rfl rfl ?_
    refine g_l 12 rfl rfl ?_
    refine g_callE rfl (m_edgesOf h.1 h.2.1 hw2) ?_ (hr := rcvM rfl)
    refine g_goto rfl ?_
    exact g_ret rfl rfl ⟨rfl, h, FrM.rf⟩
theorem m_at {p : Int} (h : MI I v hs hn ct tx tl) (hp : rng p) : Ct L (d + 3) k_X8_at [vR 137, vI p] I (PN I (qAt v p) v hs hn ct tx tl) := by
  have b1 := b2i_r (0 ≤ p ∧ p < fS v)
  have hS := fS_rng h.2.1
  show Go L (d + 3) k_X8_at 0 [some (vR 137), some (vI p)] [] I _
  refine g_l 1 rfl rfl ?_
  refine g_l 2 rfl rfl ?_
  refine g_callE rfl (m_isPlace h.1 h.2.1 hp) ?_ (hr := rcvM rfl)
  unfold qAt
  refine g_if_eq rfl (by omega) (fun g => ?_) (fun g => ?_)
  · rw [if_neg (show ¬ (0 ≤ p ∧ p < v 9 * v 10) from b2i_0 g)]
    refine g_l 17 rfl rfl ?_
    refine g_p 19 rfl rfl ?_
    refine g_call rfl (m_refuse (Or.inl rfl) h) (fun r J hJ => ?_) (hr := rcvM rfl)
    obtain ⟨rfl, hJ⟩ := hJ
    exact g_ret rfl rfl ⟨rfl, hJ⟩
  · have g := b2i_1 g
    rw [if_pos (show 0 ≤ p ∧ p < v 9 * v 10 from g)]
    obtain ⟨pn, hpn⟩ := Int.eq_ofNat_of_zero_le g.1
    subst hpn
    refine g_l 9 rfl rfl ?_
    refine g_l 10 rfl rfl ?_
    refine g_callE rfl (m_lies h.1 (by omega)) ?_ (hr := rcvM rfl)
    refine g_goto rfl ?_
    exact g_ret rfl rfl ⟨rfl, h, FrM.rf⟩
end MA
