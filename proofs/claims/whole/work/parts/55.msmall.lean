/-! EdgeJoinModel: type, clear, back, told -/
section MT
variable {L d : Nat} {I : zI} {v : Nat → Int} {hs : Nat → Nat → Int} {hn : Nat} {ct tx : Nat → Int} {tl : Nat}
theorem m_type_n {c : Int} (h : MI I v hs hn ct tx tl) (hc : rng c) (hno : why3 (qType tl c)) : Ct L (d + 4) k_X8_type [vR 137, vI c] I (PM I (qType tl c) v hs hn (rfs ct (qType tl c)) tx tl) := by
  have b1 := b2i_r (0 ≤ c ∧ c ≤ 127)
  have t1 := h.2.2.2.2.1
  have t2 := h.2.2.2.2.2.1
  show Go L (d + 4) k_X8_type 0 [some (vR 137), some (vI c)] [] I _
  refine g_l 1 rfl rfl ?_
  refine g_i2l 2 rfl (by omega) ?_
  refine g_lc0 3 rfl ?_
  refine g_ld2 6 rfl ?_
  refine g_callE rfl (m_in (by omega) (by decide) (by decide)) ?_
  unfold qType at hno ⊢
  refine g_if_ne rfl (by omega) (fun g => ?_) (fun g => ?_)
  · have g := b2i_1 g
    rw [if_pos (show 0 ≤ c ∧ c < 128 by omega)] at hno ⊢
    by_cases hl : 150 ≤ tl
    · rw [if_pos hl]
      refine g_l 20 rfl rfl ?_
      refine g_fi rfl rfl ⟨⟨by decide, by omega, by decide⟩, by decide⟩ ?_
      refine g_p 26 rfl rfl ?_
      rw [t1]
      refine g_ic_ne rfl (by omega) (by omega) (fun g2 => ?_) (fun g2 => ?_)
      · exact absurd (show (tl : Int) = 150 by omega) g2
      · refine g_l 30 rfl rfl ?_
        refine g_p 32 rfl rfl ?_
        refine g_call rfl (m_refuse (Or.inr (Or.inr rfl)) h) (fun r J hJ => ?_) (hr := rcvM rfl)
        obtain ⟨rfl, hJ⟩ := hJ
        exact g_ret rfl rfl ⟨rfl, hJ⟩
    · rw [if_neg hl] at hno
      exact absurd hno (by decide)
  · have g := b2i_0 (Decidable.not_not.mp g)
    rw [if_neg (show ¬ (0 ≤ c ∧ c < 128) by omega)]
    refine g_l 13 rfl rfl ?_
    refine g_p 15 rfl rfl ?_
    refine g_call rfl (m_refuse (Or.inl rfl) h) (fun r J hJ => ?_) (hr := rcvM rfl)
    obtain ⟨rfl, hJ⟩ := hJ
    exact g_ret rfl rfl ⟨rfl, hJ⟩
theorem m_type_y {c : Int} (h : MI I v hs hn ct tx tl) (hc : 0 ≤ c ∧ c < 128) (hl : tl < 150) : Ct L (d + 4) k_X8_type [vR 137, vI c] I (PM I ((tl + 1 : Nat) : Int) v hs hn ct (zup tx tl c) (tl + 1)) := by
  have b1 := b2i_r (0 ≤ c ∧ c ≤ 127)
  have t1 := h.2.2.2.2.1
  have t3 := h.2.2.2.2.2.2
  show Go L (d + 4) k_X8_type 0 [some (vR 137), some (vI c)] [] I _
  refine g_l 1 rfl rfl ?_
  refine g_i2l 2 rfl (by omega) ?_
  refine g_lc0 3 rfl ?_
  refine g_ld2 6 rfl ?_
  refine g_callE rfl (m_in (by omega) (by decide) (by decide)) ?_
  refine g_if_ne rfl (by omega) (fun g => ?_) (fun g => ?_)
  · refine g_l 20 rfl rfl ?_
    refine g_fi rfl rfl ⟨⟨by decide, by omega, by decide⟩, by decide⟩ ?_
    refine g_p 26 rfl rfl ?_
    rw [t1]
    refine g_ic_ne rfl (by omega) (by omega) (fun g2 => ?_) (fun g2 => ?_)
    · refine g_l 37 rfl rfl ?_
      refine g_fr rfl rfl ⟨⟨by decide, by omega, by decide⟩, by decide⟩ rfl ?_
      refine g_l 41 rfl rfl ?_
      refine g_fi rfl rfl ⟨⟨by decide, by omega, by decide⟩, by decide⟩ ?_
      refine g_l 45 rfl rfl ?_
      rw [t1]
      refine g_ias tl rfl rfl (by omega) rfl (by omega) ?_
      refine g_l 47 rfl rfl ?_
      refine g_p 48 rfl rfl ?_
      refine g_fi rfl rfl ⟨⟨by decide, by omega, by decide⟩, by decide⟩ ?_
      refine g_p 52 rfl rfl ?_
      refine g_p 53 rfl rfl ?_
      refine g_wi rfl rfl ⟨⟨by decide, by omega, by decide⟩, by decide⟩ ?_
      refine g_l 57 rfl rfl ?_
      refine g_fi rfl rfl ⟨⟨by decide, by omega, by decide⟩, by decide⟩ ?_
      rw [zup2_at, zup2_ne (by omega), t1]
      refine g_ret rfl rfl ⟨rfl, ⟨fun k hk => by rw [zup2_ne (by omega), zup2_ne (by omega)]; exact h.1 k hk, h.2.1, ⟨h.2.2.1.1, h.2.2.1.2.1, by rw [zup2_an (by omega), zup2_ne (by omega)]; exact h.2.2.1.2.2.1, fun i hi k hk => by rw [zup2_ne (by omega), zup2_ne (by omega)]; exact h.2.2.1.2.2.2 i hi k hk⟩, fun j hj => by rw [zup2_ne (by omega), zup2_ne (by omega)]; exact h.2.2.2.1 j hj, by rw [zup2_at]; rfl, by omega, fun j hj => ?_⟩, fun q hq => by rw [zup2_ne (by omega), zup2_ne (by omega)]⟩
      rw [zup2_ne (by omega)]
      by_cases hjt : j = tl
      · rw [hjt, zup2_at, zup_s]
        exact ⟨rfl, by omega, by omega⟩
      · rw [zup2_an hjt, zup_n hjt]
        exact t3 j (by omega)
    · exact absurd (Decidable.not_not.mp g2) (by omega)
  · exact absurd ⟨hc.1, by omega⟩ (b2i_0 (Decidable.not_not.mp g))
theorem m_clear (h : MI I v hs hn ct tx tl) : Ct L d k_X8_clear [vR 137] I (PM I tl v hs hn ct tx 0) := by
  have t1 := h.2.2.2.2.1
  show Go L d k_X8_clear 0 [some (vR 137), none] [] I _
  refine g_l 1 rfl rfl ?_
  refine g_fi rfl rfl ⟨⟨by decide, by omega, by decide⟩, by decide⟩ ?_
  rw [t1]
  refine g_l 5 rfl rfl ?_
  refine g_l 6 rfl rfl ?_
  refine g_p 7 rfl rfl ?_
  refine g_wi rfl rfl ⟨⟨by decide, by omega, by decide⟩, by decide⟩ ?_
  refine g_l 11 rfl rfl ?_
  exact g_ret rfl rfl ⟨rfl, ⟨fun k hk => by rw [zup2_ne (by omega)]; exact h.1 k hk, h.2.1, ⟨h.2.2.1.1, h.2.2.1.2.1, by rw [zup2_an (by omega)]; exact h.2.2.1.2.2.1, fun i hi k hk => by rw [zup2_ne (by omega)]; exact h.2.2.1.2.2.2 i hi k hk⟩, fun j hj => by rw [zup2_ne (by omega)]; exact h.2.2.2.1 j hj, zup2_at, by omega, fun j hj => absurd hj (by omega)⟩, fun q hq => zup2_ne (by omega)⟩
theorem m_back_n (h : MI I v hs 0 ct tx tl) : Ct L (d + 4) k_X8_back [vR 137] I (PM I (-3) v hs 0 (rfs ct (-3)) tx tl) := by
  have t1 := h.2.2.1.2.2.1
  show Go L (d + 4) k_X8_back 0 [some (vR 137), none] [] I _
  refine g_l 1 rfl rfl ?_
  refine g_fi rfl rfl ⟨⟨by decide, by omega, by decide⟩, by decide⟩ ?_
  rw [t1]
  refine g_if_ne rfl (by omega) (fun g => ?_) (fun g => ?_)
  · exact absurd rfl g
  · refine g_l 8 rfl rfl ?_
    refine g_p 10 rfl rfl ?_
    refine g_call rfl (m_refuse (Or.inr (Or.inl rfl)) h) (fun r J hJ => ?_) (hr := rcvM rfl)
    obtain ⟨rfl, hJ⟩ := hJ
    exact g_ret rfl rfl ⟨rfl, hJ⟩
theorem m_back_y {n : Nat} (h : MI I v hs (n + 1) ct tx tl) : Ct L (d + 4) k_X8_back [vR 137] I (PM I n (hs n) hs n ct tx tl) := by
  obtain ⟨hA, ho, ⟨a1, a2, a3, a4⟩, hb, hc⟩ := h
  have e : ((n + 1 : Nat) : Int) - 1 = (n : Int) := by omega
  show Go L (d + 4) k_X8_back 0 [some (vR 137), none] [] I _
  refine g_l 1 rfl rfl ?_
  refine g_fi rfl rfl ⟨⟨by decide, by omega, by decide⟩, by decide⟩ ?_
  rw [a3]
  refine g_if_ne rfl (by omega) (fun g => ?_) (fun g => ?_)
  · refine g_l 15 rfl rfl ?_
    refine g_p 16 rfl rfl ?_
    refine g_fi rfl rfl ⟨⟨by decide, by omega, by decide⟩, by decide⟩ ?_
    refine g_p 20 rfl rfl ?_
    rw [a3]
    refine g_p 21 rfl rfl ?_
    refine g_wi rfl rfl ⟨⟨by decide, by omega, by decide⟩, by decide⟩ ?_
    refine g_p 25 rfl rfl ?_
    refine g_l 26 rfl rfl ?_
    rw [e]
    have loop : ∀ (m k : Nat) (K : zI), k + m = 19 → (∀ j, j < k → K 138 j = hs n j) → (∀ q, q ≠ 138 → K q = zup2 I 137 2 (n : Int) q) → Go L (d + 4) k_X8_back 26 [some (vR 137), some (vI k)] [] K (PM I n (hs n) hs n ct tx tl) := by
      intro m
      induction m with
      | zero =>
        intro k K hk k1 k2
        have h2 : K 137 2 = (n : Int) := by rw [k2 137 (by omega), zup2_at]
        refine g_l 27 rfl rfl ?_
        refine g_p 29 rfl rfl ?_
        refine g_ic_ge rfl (by omega) (by omega) (fun g2 => ?_) (fun g2 => ?_)
        · refine g_l 59 rfl rfl ?_
          refine g_fi rfl rfl ⟨⟨by decide, by omega, by decide⟩, by decide⟩ ?_
          rw [h2]
          exact g_ret rfl rfl ⟨rfl, ⟨fun j hj => k1 j (by omega), a2 n (by omega), ⟨by omega, fun i hi => a2 i (by omega), h2, fun i hi j hj => by rw [k2 139 (by omega), zup2_ne (by omega)]; exact a4 i (by omega) j hj⟩, fun j hj => by rw [k2 140 (by omega), zup2_ne (by omega)]; exact hb j hj, by rw [k2 137 (by omega), zup2_an (by omega)]; exact hc.1, hc.2.1, fun j hj => by rw [k2 147 (by omega), zup2_ne (by omega)]; exact hc.2.2 j hj⟩, fun q hq => by rw [k2 q (by omega), zup2_ne (by omega)]⟩
        · exact absurd g2 (by omega)
      | succ m ih =>
        intro k K hk k1 k2
        have h2 : K 137 2 = (n : Int) := by rw [k2 137 (by omega), zup2_at]
        refine g_l 27 rfl rfl ?_
        refine g_p 29 rfl rfl ?_
        refine g_ic_ge rfl (by omega) (by omega) (fun g2 => ?_) (fun g2 => ?_)
        · exact absurd g2 (by omega)
        · refine g_l 33 rfl rfl ?_
          refine g_fr rfl rfl ⟨⟨by decide, by omega, by decide⟩, by decide⟩ rfl ?_
          refine g_l 37 rfl rfl ?_
          refine g_l 38 rfl rfl ?_
          refine g_fr rfl rfl ⟨⟨by decide, by omega, by decide⟩, by decide⟩ rfl ?_
          refine g_p 43 rfl rfl ?_
          refine g_l 44 rfl rfl ?_
          refine g_fi rfl rfl ⟨⟨by decide, by omega, by decide⟩, by decide⟩ ?_
          refine g_p 48 rfl rfl ?_
          refine g_l 49 rfl rfl ?_
          refine g_p 50 rfl rfl ?_
          rw [h2]
          refine g_ia (19 * n + k) rfl rfl (by omega) (by omega) ?_
          rw [k2 139 (by omega), zup2_ne (by omega), a4 n (by omega) k (by omega)]
          refine g_ias k rfl rfl (by omega) rfl (by omega) ?_
          refine g_l 55 rfl rfl ?_
          refine g_goto rfl ?_
          refine ih (k + 1) _ (by omega) (fun j hj => ?_) (fun q hq => by rw [zup2_ne hq]; exact k2 q hq)
          by_cases hjk : j = k
          · rw [hjk, zup2_at]
          · rw [zup2_an hjk]
            exact k1 j (by omega)
    exact loop 19 0 _ (by omega) (fun j hj => absurd hj (by omega)) (fun _ _ => rfl)
  · exact absurd (Decidable.not_not.mp g) (by omega)
theorem m_toldOf {w : Int} (h : MI I v hs hn ct tx tl) (hw : 0 ≤ w ∧ w < 8) : Ev L (d + 1) k_X8_toldOf [vR 137, vI w] I (some (vI (tdA v hn ct tl w))) I := by
  have hwc : w = 0 ∨ w = 1 ∨ w = 2 ∨ w = 3 ∨ w = 4 ∨ w = 5 ∨ w = 6 ∨ w = 7 := by omega
  have hb := h.2.2.2.1
  show Go L (d + 1) k_X8_toldOf 0 [some (vR 137), some (vI w)] [] I _
  refine g_l 1 rfl rfl ?_
  rcases hwc with rfl | rfl | rfl | rfl | rfl | rfl | rfl | rfl
  · refine g_ts 61 rfl (by decide) (by decide) ?_
    refine g_l 62 rfl rfl ?_
    refine g_fr rfl rfl ⟨⟨by decide, by omega, by decide⟩, by decide⟩ rfl ?_
    refine g_l 66 rfl rfl ?_
    refine g_ia 0 rfl rfl rfl (by omega) ?_
    rw [hb 0 (by omega)]
    exact g_ret rfl rfl ⟨rfl, rfl⟩
  · refine g_ts 61 rfl (by decide) (by decide) ?_
    refine g_l 62 rfl rfl ?_
    refine g_fr rfl rfl ⟨⟨by decide, by omega, by decide⟩, by decide⟩ rfl ?_
    refine g_l 66 rfl rfl ?_
    refine g_ia 1 rfl rfl rfl (by omega) ?_
    rw [hb 1 (by omega)]
    exact g_ret rfl rfl ⟨rfl, rfl⟩
  · refine g_ts 61 rfl (by decide) (by decide) ?_
    refine g_l 62 rfl rfl ?_
    refine g_fr rfl rfl ⟨⟨by decide, by omega, by decide⟩, by decide⟩ rfl ?_
    refine g_l 66 rfl rfl ?_
    refine g_ia 2 rfl rfl rfl (by omega) ?_
    rw [hb 2 (by omega)]
    exact g_ret rfl rfl ⟨rfl, rfl⟩
  · refine g_ts 36 rfl (by decide) (by decide) ?_
    refine g_l 37 rfl rfl ?_
    refine g_fi rfl rfl ⟨⟨by decide, by omega, by decide⟩, by decide⟩ ?_
    rw [h.2.2.2.2.1]
    exact g_ret rfl rfl ⟨rfl, rfl⟩
  · refine g_ts 41 rfl (by decide) (by decide) ?_
    refine g_l 42 rfl rfl ?_
    refine g_callE rfl (m_many h.1) ?_ (hr := rcvM rfl)
    exact g_ret rfl rfl ⟨rfl, rfl⟩
  · refine g_ts 46 rfl (by decide) (by decide) ?_
    refine g_l 47 rfl rfl ?_
    refine g_callE rfl (m_wide h.1) ?_ (hr := rcvM rfl)
    exact g_ret rfl rfl ⟨rfl, rfl⟩
  · refine g_ts 51 rfl (by decide) (by decide) ?_
    refine g_l 52 rfl rfl ?_
    refine g_callE rfl (m_high h.1) ?_ (hr := rcvM rfl)
    exact g_ret rfl rfl ⟨rfl, rfl⟩
  · refine g_ts 56 rfl (by decide) (by decide) ?_
    refine g_l 57 rfl rfl ?_
    refine g_fi rfl rfl ⟨⟨by decide, by omega, by decide⟩, by decide⟩ ?_
    rw [h.2.2.1.2.2.1]
    exact g_ret rfl rfl ⟨rfl, rfl⟩
theorem m_told {w : Int} (h : MI I v hs hn ct tx tl) (hw : rng w) : Ct L (d + 2) k_X8_told [vR 137, vI w] I (PN I (qTold v hn ct tl w) v hs hn ct tx tl) := by
  have b1 := b2i_r (0 ≤ w ∧ w ≤ 7)
  show Go L (d + 2) k_X8_told 0 [some (vR 137), some (vI w)] [] I _
  unfold qTold
  refine g_l 1 rfl rfl ?_
  refine g_i2l 2 rfl (by omega) ?_
  refine g_lc0 3 rfl ?_
  refine g_ld2 6 rfl ?_
  refine g_callE rfl (m_in (by omega) (by decide) (by decide)) ?_
  refine g_if_eq rfl (by omega) (fun g => ?_) (fun g => ?_)
  · have g := b2i_0 g
    rw [if_neg (by omega)]
    refine g_l 21 rfl rfl ?_
    refine g_p 23 rfl rfl ?_
    refine g_call rfl (m_refuse (Or.inl rfl) h) (fun r J hJ => ?_) (hr := rcvM rfl)
    obtain ⟨rfl, hJ⟩ := hJ
    exact g_ret rfl rfl ⟨rfl, hJ⟩
  · have g := b2i_1 g
    rw [if_pos (show 0 ≤ w ∧ w < 8 by omega)]
    refine g_l 13 rfl rfl ?_
    refine g_l 14 rfl rfl ?_
    refine g_callE rfl (m_toldOf h (by omega)) ?_ (hr := rcvM rfl)
    refine g_goto rfl ?_
    exact g_ret rfl rfl ⟨rfl, h, FrM.rf⟩
theorem m_swaps {K : zI} : Ct L d k_X8_swaps [vR 137] K (fun r J => r = none ∧ (∀ k, k < 19 → J 138 k = K 149 k) ∧ (∀ k, k < 19 → J 149 k = K 138 k) ∧ ∀ q, q ≠ 138 → q ≠ 149 → J q = K q) := by
  have loop : ∀ (m k : Nat) (J : zI) (o2 : Option zV), k + m = 19 → (∀ j, j < 19 → J 138 j = if j < k then K 149 j else K 138 j) → (∀ j, j < 19 → J 149 j = if j < k then K 138 j else K 149 j) → (∀ q, q ≠ 138 → q ≠ 149 → J q = K q) → Go L d k_X8_swaps 2 [some (vR 137), some (vI k), o2] [] J (fun r J => r = none ∧ (∀ k, k < 19 → J 138 k = K 149 k) ∧ (∀ k, k < 19 → J 149 k = K 138 k) ∧ ∀ q, q ≠ 138 → q ≠ 149 → J q = K q) := by
    intro m
    induction m with
    | zero =>
      intro k J o2 hk j1 j2 j3
      refine g_l 3 rfl rfl ?_
      refine g_p 5 rfl rfl ?_
      refine g_ic_ge rfl (by omega) (by omega) (fun g => ?_) (fun g => ?_)
      · exact g_ret rfl rfl ⟨rfl, fun j hj => by rw [j1 j hj, if_pos (by omega)], fun j hj => by rw [j2 j hj, if_pos (by omega)], j3⟩
      · exact absurd g (by omega)
    | succ m ih =>
      intro k J o2 hk j1 j2 j3
      have e1 : J 138 k = K 138 k := by rw [j1 k (by omega), if_neg (by omega)]
      have e2 : J 149 k = K 149 k := by rw [j2 k (by omega), if_neg (by omega)]
      refine g_l 3 rfl rfl ?_
      refine g_p 5 rfl rfl ?_
      refine g_ic_ge rfl (by omega) (by omega) (fun g => ?_) (fun g => ?_)
      · exact absurd g (by omega)
      · refine g_l 9 rfl rfl ?_
        refine g_fr rfl rfl ⟨⟨by decide, by omega, by decide⟩, by decide⟩ rfl ?_
        refine g_l 13 rfl rfl ?_
        refine g_ia k rfl rfl rfl (by omega) ?_
        rw [e1]
        refine g_l 15 rfl rfl ?_
        refine g_l 16 rfl rfl ?_
        refine g_fr rfl rfl ⟨⟨by decide, by omega, by decide⟩, by decide⟩ rfl ?_
        refine g_l 20 rfl rfl ?_
        refine g_l 21 rfl rfl ?_
        refine g_fr rfl rfl ⟨⟨by decide, by omega, by decide⟩, by decide⟩ rfl ?_
        refine g_l 25 rfl rfl ?_
        refine g_ia k rfl rfl rfl (by omega) ?_
        rw [e2]
        refine g_ias k rfl rfl (by omega) rfl (by omega) ?_
        refine g_l 28 rfl rfl ?_
        refine g_fr rfl rfl ⟨⟨by decide, by omega, by decide⟩, by decide⟩ rfl ?_
        refine g_l 32 rfl rfl ?_
        refine g_l 33 rfl rfl ?_
        refine g_ias k rfl rfl (by omega) rfl (by omega) ?_
        refine g_l 37 rfl rfl ?_
        refine g_goto rfl ?_
        refine ih (k + 1) _ _ (by omega) (fun j hj => ?_) (fun j hj => ?_) (fun q q1 q2 => by rw [zup2_ne q2, zup2_ne q1]; exact j3 q q1 q2)
        · rw [zup2_ne (by omega)]
          by_cases hjk : j = k
          · rw [hjk, zup2_at, if_pos (by omega)]
          · rw [zup2_an hjk, j1 j hj]
            by_cases hjl : j < k
            · rw [if_pos hjl, if_pos (by omega)]
            · rw [if_neg hjl, if_neg (by omega)]
        · by_cases hjk : j = k
          · rw [hjk, zup2_at, if_pos (by omega)]
          · rw [zup2_an hjk, zup2_ne (by omega), j2 j hj]
            by_cases hjl : j < k
            · rw [if_pos hjl, if_pos (by omega)]
            · rw [if_neg hjl, if_neg (by omega)]
  show Go L d k_X8_swaps 0 [some (vR 137), none, none] [] K _
  refine g_p 1 rfl rfl ?_
  refine g_l 2 rfl rfl ?_
  exact loop 19 0 K _ (by omega) (fun j _ => by rw [if_neg (by omega)]) (fun j _ => by rw [if_neg (by omega)]) (fun _ _ _ => rfl)
end MT
