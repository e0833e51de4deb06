/-! EdgeJoinModel: turns, makes -/
section MM
variable {L d : Nat} {I : zI} {v : Nat → Int} {hs : Nat → Nat → Int} {hn : Nat} {ct tx : Nat → Int} {tl : Nat}
/-- behind an answer -/
def PM (I : zI) (a : Int) (v : Nat → Int) (hs : Nat → Nat → Int) (hn : Nat) (ct tx : Nat → Int) (tl : Nat) : Option zV → zI → Prop := fun r J => r = some (vI a) ∧ MI J v hs hn ct tx tl ∧ FrM I J
/-- behind a question -/
def PN (I : zI) (q : Int × Int) (v : Nat → Int) (hs : Nat → Nat → Int) (hn : Nat) (ct tx : Nat → Int) (tl : Nat) : Option zV → zI → Prop := fun r J => r = some (vI q.1) ∧ MI J v hs hn (rf0 ct q.2) tx tl ∧ FrM I J
theorem MI.new2 {J : zI} {w : Nat → Int} (h : MI I v hs hn ct tx tl) (hA : AL J w) (ho : OKv w) (hq : ∀ q, q ≠ 138 → q ≠ 141 → J q = I q) : MI J w hs hn ct tx tl := ⟨hA, ho, h.2.2.fr (by rw [hq 137 (by omega) (by omega)]) (by rw [hq 137 (by omega) (by omega)]) (fun q a => hq q (by omega) (by omega))⟩
theorem m_turns_n {p t : Int} (h : MI I v hs hn ct tx tl) (hp : rng p) (ht : rng t) (hno : ¬ ((0 ≤ p ∧ p < v 0) ∧ 0 ≤ t ∧ t < 4)) : Ct L (d + 3) k_X8_turns [vR 137, vI p, vI t] I (PM I (-2) v hs hn (rfs ct (-2)) tx tl) := by
  have b1 := b2i_r (0 ≤ p ∧ p < v 0)
  have b2 := b2i_r (0 ≤ t ∧ t ≤ 3)
  have bad : Go L (d + 3) k_X8_turns 20 [some (vR 137), some (vI p), some (vI t)] [] I (PM I (-2) v hs hn (rfs ct (-2)) tx tl) := by
    refine g_l 21 rfl rfl ?_
    refine g_p 23 rfl rfl ?_
    refine g_call rfl (m_refuse (Or.inl rfl) h) (fun r J hJ => ?_) (hr := rcvM rfl)
    obtain ⟨rfl, hJ⟩ := hJ
    exact g_ret rfl rfl ⟨rfl, hJ⟩
  show Go L (d + 3) k_X8_turns 0 [some (vR 137), some (vI p), some (vI t)] [] I _
  refine g_l 1 rfl rfl ?_
  refine g_l 2 rfl rfl ?_
  refine g_callE rfl (m_isPiece h.1 h.2.1 hp) ?_ (hr := rcvM rfl)
  refine g_if_eq rfl (by omega) (fun g1 => ?_) (fun g1 => ?_)
  · exact bad
  · have g1 := b2i_1 g1
    refine g_l 9 rfl rfl ?_
    refine g_i2l 10 rfl (by omega) ?_
    refine g_lc0 11 rfl ?_
    refine g_ld2 14 rfl ?_
    refine g_callE rfl (m_in (by omega) (by decide) (by decide)) ?_
    refine g_if_ne rfl (by omega) (fun g2 => ?_) (fun g2 => ?_)
    · have g2 := b2i_1 g2
      exact absurd ⟨g1, g2.1, by omega⟩ hno
    · exact bad
theorem m_turns_y {p t : Nat} (h : MI I v hs hn ct tx tl) (hp : (p : Int) < v 0) (ht : t < 4) : Ct L (d + 3) k_X8_turns [vR 137, vI p, vI t] I (PM I (tqs (v (1 + p)) t) (zup v (1 + p) (tqs (v (1 + p)) t)) (hpush hs hn v) (if hn < 6 then hn + 1 else 6) ct tx tl) := by
  have h0 := h.2.1.1
  have b1 := b2i_r (0 ≤ (p : Int) ∧ (p : Int) < v 0)
  have b2 := b2i_r (0 ≤ (t : Int) ∧ (t : Int) ≤ 3)
  show Go L (d + 3) k_X8_turns 0 [some (vR 137), some (vI p), some (vI t)] [] I _
  refine g_l 1 rfl rfl ?_
  refine g_l 2 rfl rfl ?_
  refine g_callE rfl (m_isPiece h.1 h.2.1 (by omega)) ?_ (hr := rcvM rfl)
  refine g_if_eq rfl (by omega) (fun g1 => ?_) (fun g1 => ?_)
  · exact absurd ⟨by omega, hp⟩ (b2i_0 g1)
  · refine g_l 9 rfl rfl ?_
    refine g_i2l 10 rfl (by omega) ?_
    refine g_lc0 11 rfl ?_
    refine g_ld2 14 rfl ?_
    refine g_callE rfl (m_in (by omega) (by decide) (by decide)) ?_
    refine g_if_ne rfl (by omega) (fun g2 => ?_) (fun g2 => ?_)
    · refine g_l 28 rfl rfl ?_
      refine g_call rfl (m_keep h) (fun r J hJ => ?_) (hr := rcvM rfl)
      obtain ⟨rfl, hJ, hF⟩ := hJ
      refine g_l 32 rfl rfl ?_
      refine g_fr rfl rfl ⟨⟨by decide, by omega, by decide⟩, by decide⟩ rfl ?_
      refine g_p 36 rfl rfl ?_
      refine g_l 37 rfl rfl ?_
      refine g_p 38 rfl rfl ?_
      refine g_l 39 rfl rfl ?_
      refine g_l 40 rfl rfl ?_
      refine g_callE rfl (m_bits hJ.1 (by omega)) ?_ (hr := rcvM rfl)
      refine g_l 44 rfl rfl ?_
      refine g_callE rfl (m_turned t (by omega)) ?_
      refine g_ias (1 + p) rfl rfl (by omega) (by omega) (by omega) ?_
      refine g_l 49 rfl rfl ?_
      refine g_l 50 rfl rfl ?_
      have hA2 : AL (zup2 J 138 (1 + p) (tqs (v (1 + p)) t)) (zup v (1 + p) (tqs (v (1 + p)) t)) := fun k hk => by
        rw [zup2_fn]
        exact zup_pt (N := 19) hJ.1 rfl k hk
      refine g_callE rfl (m_bits hA2 (by omega)) ?_ (hr := rcvM rfl)
      refine g_ret rfl rfl ⟨by rw [zup_s], hJ.new hA2 (ok_turn h.2.1 (by omega)) (fun q hq => zup2_ne hq), fun q hq => ?_⟩
      rw [zup2_ne (by omega)]
      exact hF q hq
    · exact absurd ⟨by omega, by omega⟩ (b2i_0 (Decidable.not_not.mp g2))
theorem m_canMake {s w g tu : Int} (hs1 : rng s) (hw : rng w) (hg : rng g) (ht : rng tu) : Ev L (d + 1) k_X8_canMake [vR 137, vI s, vI w, vI g, vI tu] I (some (vI (if mkOK s w g tu then 0 else -2))) I := by
  have b1 := b2i_r (0 ≤ s ∧ s ≤ 999999)
  have b2 := b2i_r (1 ≤ w ∧ w ≤ 8)
  have b3 := b2i_r (1 ≤ g ∧ g ≤ 8)
  have b4 := b2i_r (0 ≤ tu ∧ tu ≤ 1)
  have bad : ¬ mkOK s w g tu → Go L (d + 1) k_X8_canMake 59 [some (vR 137), some (vI s), some (vI w), some (vI g), some (vI tu)] [] I (fun r J => r = some (vI (if mkOK s w g tu then 0 else -2)) ∧ J = I) := fun hno => by
    refine g_p 61 rfl rfl ?_
    rw [if_neg hno]
    exact g_ret rfl rfl ⟨rfl, rfl⟩
  show Go L (d + 1) k_X8_canMake 0 [some (vR 137), some (vI s), some (vI w), some (vI g), some (vI tu)] [] I _
  refine g_l 1 rfl rfl ?_
  refine g_i2l 2 rfl (by omega) ?_
  refine g_lc0 3 rfl ?_
  refine g_ld2 6 rfl ?_
  refine g_callE rfl (m_in (by omega) (by decide) (by decide)) ?_
  refine g_if_eq rfl (by omega) (fun g1 => ?_) (fun g1 => ?_)
  · exact bad (fun z => b2i_0 g1 z.1)
  · have g1 := b2i_1 g1
    refine g_l 13 rfl rfl ?_
    refine g_i2l 14 rfl (by omega) ?_
    refine g_lc1 15 rfl ?_
    refine g_ld2 18 rfl ?_
    refine g_callE rfl (m_in (by omega) (by decide) (by decide)) ?_
    refine g_if_eq rfl (by omega) (fun g2 => ?_) (fun g2 => ?_)
    · exact bad (fun z => b2i_0 g2 z.2.1.1)
    · have g2 := b2i_1 g2
      refine g_l 25 rfl rfl ?_
      refine g_i2l 26 rfl (by omega) ?_
      refine g_lc1 27 rfl ?_
      refine g_ld2 30 rfl ?_
      refine g_callE rfl (m_in (by omega) (by decide) (by decide)) ?_
      refine g_if_eq rfl (by omega) (fun g3 => ?_) (fun g3 => ?_)
      · exact bad (fun z => b2i_0 g3 z.2.1.2.1)
      · have g3 := b2i_1 g3
        have e1 := Int.mul_le_mul g2.2 g3.2 (by omega) (by omega)
        have e2 := Int.mul_nonneg (show 0 ≤ w by omega) (show 0 ≤ g by omega)
        refine g_l 37 rfl rfl ?_
        refine g_l 38 rfl rfl ?_
        refine g_p 39 rfl rfl ?_
        refine g_p 41 rfl rfl ?_
        refine g_ic_gt rfl (by omega) (by omega) (fun g4 => ?_) (fun g4 => ?_)
        · exact bad (fun z => absurd z.2.1.2.2 (by omega))
        · refine g_l 46 rfl rfl ?_
          refine g_i2l 47 rfl (by omega) ?_
          refine g_lc0 48 rfl ?_
          refine g_lc1 49 rfl ?_
          refine g_callE rfl (m_in (by omega) (by decide) (by decide)) ?_
          refine g_if_eq rfl (by omega) (fun g5 => ?_) (fun g5 => ?_)
          · exact bad (fun z => b2i_0 g5 (by omega))
          · have g5 := b2i_1 g5
            refine g_p 56 rfl rfl ?_
            refine g_goto rfl ?_
            rw [if_pos ⟨g1, ⟨g2, g3, by omega⟩, by omega⟩]
            exact g_ret rfl rfl ⟨rfl, rfl⟩
theorem m_nextDrawn {x : Int} (hx : 0 ≤ x ∧ x < 2147483648) : Ev L d k_X8_nextDrawn [vL x] I (some (vL (nxt x))) I := by
  show Go L d k_X8_nextDrawn 0 [some (vL x), none] [] I _
  refine g_l 1 rfl rfl ?_
  refine g_ld2 4 rfl ?_
  refine g_p 5 rfl rfl ?_
  refine g_ld2 8 rfl ?_
  refine g_p 9 rfl rfl ?_
  refine g_ld2 12 rfl ?_
  refine g_lrem 13 rfl (by omega) (by omega) ?_
  refine g_ret rfl rfl ⟨?_, rfl⟩
  unfold nxt
  rw [Int.mul_comm x]
set_option maxRecDepth 4096 in
theorem m_makeNow {s tu : Int} {wn gn : Nat} (hA : AL I v) (ho : OKv v) (hs1 : 0 ≤ s ∧ s ≤ 999999) (hw : 1 ≤ wn ∧ wn ≤ 8) (hg : 1 ≤ gn ∧ gn ≤ 8) (n1 : 1 ≤ wn * gn) (n8 : wn * gn ≤ 8) (htu : tu = 0 ∨ tu = 1) : Ct L (d + 3) k_X8_makeNow [vR 137, vI s, vI wn, vI gn, vI tu] I (fun r J => r = some (vI ((wn : Int) * (gn : Int))) ∧ AL J (vMk v s wn gn tu) ∧ ∀ q, q ≠ 138 → q ≠ 141 → J q = I q) := by
  have hfit2 := mk_fit2 wn (by omega) gn (by omega) n8 hw.1 hg.1
  have en : (wn : Int) * (gn : Int) = ((wn * gn : Nat) : Int) := (Int.natCast_mul _ _).symm
  have eCR : ((3 * gn + 1 : Nat) : Int) * ((3 * wn + 1 : Nat) : Int) = (((3 * wn + 1) * (3 * gn + 1) : Nat) : Int) := by rw [Nat.mul_comm (3 * wn + 1)]; exact (Int.natCast_mul _ _).symm
  have hsr : 0 ≤ s ∧ s < 2147483648 := by omega
  have tail : ∀ (K : zI) (x7 : zV) (o8 o9 o10 o11 o12 : Option zV), K 138 0 = (wn : Int) * (gn : Int) → (∀ j, j < 8 → K 138 (1 + j) = mkC v s wn gn tu j) → (∀ q, q ≠ 138 → q ≠ 141 → K q = I q) → Go L (d + 3) k_X8_makeNow 354 [some (vR 137), some (vI s), some (vI wn), some (vI gn), some (vI tu), some (vI ((3 * wn + 1 : Nat) : Int)), some (vI ((3 * gn + 1 : Nat) : Int)), some x7, o8, o9, o10, o11, o12] [] K (fun r J => r = some (vI ((wn : Int) * (gn : Int))) ∧ AL J (vMk v s wn gn tu) ∧ ∀ q, q ≠ 138 → q ≠ 141 → J q = I q) := by
    intro K x7 o8 o9 o10 o11 o12 k1 k2 k3
    refine g_l 355 rfl rfl ?_
    refine g_l 356 rfl rfl ?_
    refine g_l 357 rfl rfl ?_
    refine g_call rfl m_lays (fun r J hJ => ?_) (hr := rcvM rfl)
    obtain ⟨rfl, j1, j2⟩ := hJ
    refine g_l 361 rfl rfl ?_
    refine g_l 362 rfl rfl ?_
    refine g_p 363 rfl rfl ?_
    refine g_ret rfl rfl ⟨rfl, fun k hk => ?_, fun q q1 q2 => by rw [j2 q q1]; exact k3 q q1 q2⟩
    rw [j1 k]
    unfold vMk
    by_cases h9 : k = 9
    · rw [if_pos h9, if_neg (by omega), if_neg (by omega), if_pos h9]
    · rw [if_neg h9]
      by_cases h10 : k = 10
      · rw [if_pos h10, if_neg (by omega), if_neg (by omega), if_neg (by omega), if_pos h10]
      · rw [if_neg h10]
        by_cases h11 : 11 ≤ k ∧ k < 19
        · rw [if_pos h11, if_neg (by omega), if_neg (by omega), if_neg (by omega), if_neg (by omega), if_pos (by omega)]
        · rw [if_neg h11]
          by_cases h0 : k = 0
          · rw [if_pos h0, h0, k1]
          · rw [if_neg h0, if_pos (by omega), show k = 1 + (k - 1) by omega, k2 (k - 1) (by omega), Int.toNat_natCast, Int.toNat_natCast, show 1 + (k - 1) - 1 = k - 1 by omega]
  have turn : ∀ (m p : Nat) (x : Int) (c : Nat → Int) (K : zI) (o10 o11 o12 : Option zV), p + m = wn * gn → (0 ≤ x ∧ x < 2147483648) → K 138 0 = (wn : Int) * (gn : Int) → (∀ j, j < 8 → K 138 (1 + j) = c j) → (∀ j, j < 8 → mkC v s wn gn tu j = if tu = 1 then trF m p x c j else c j) → (∀ q, q ≠ 138 → q ≠ 141 → K q = I q) → Go L (d + 3) k_X8_makeNow 298 [some (vR 137), some (vI s), some (vI wn), some (vI gn), some (vI tu), some (vI ((3 * wn + 1 : Nat) : Int)), some (vI ((3 * gn + 1 : Nat) : Int)), some (vL x), none, some (vI p), o10, o11, o12] [] K (fun r J => r = some (vI ((wn : Int) * (gn : Int))) ∧ AL J (vMk v s wn gn tu) ∧ ∀ q, q ≠ 138 → q ≠ 141 → J q = I q) := by
    intro m
    induction m with
    | zero =>
      intro p x c K o10 o11 o12 hp hx k1 k2 km k3
      refine g_l 300 rfl rfl ?_
      refine g_l 301 rfl rfl ?_
      refine g_l 302 rfl rfl ?_
      refine g_p 303 rfl rfl ?_
      rw [en]
      refine g_ic_ge rfl (by omega) (by omega) (fun g => ?_) (fun g => ?_)
      · refine tail K _ _ _ _ _ _ k1 (fun j hj => ?_) k3
        rw [k2 j hj, km j hj]
        split <;> rfl
      · exact absurd g (by omega)
    | succ m ih =>
      intro p x c K o10 o11 o12 hp hx k1 k2 km k3
      have hnr := nxt_rng x
      refine g_l 300 rfl rfl ?_
      refine g_l 301 rfl rfl ?_
      refine g_l 302 rfl rfl ?_
      refine g_p 303 rfl rfl ?_
      rw [en]
      refine g_ic_ge rfl (by omega) (by omega) (fun g => ?_) (fun g => ?_)
      · exact absurd g (by omega)
      · refine g_l 308 rfl rfl ?_
        refine g_p 309 rfl rfl ?_
        refine g_ic_ne rfl (by omega) (by omega) (fun g2 => ?_) (fun g2 => ?_)
        · refine tail K _ _ _ _ _ _ k1 (fun j hj => ?_) k3
          rw [k2 j hj, km j hj, if_neg g2]
        · have g2 : tu = 1 := Decidable.not_not.mp g2
          refine g_l 314 rfl rfl ?_
          refine g_callE rfl (m_nextDrawn hx) ?_
          refine g_l 319 rfl rfl ?_
          refine g_l 320 rfl rfl ?_
          refine g_fr rfl rfl ⟨⟨by decide, by omega, by decide⟩, by decide⟩ rfl ?_
          refine g_p 324 rfl rfl ?_
          refine g_l 326 rfl rfl ?_
          refine g_p 327 rfl rfl ?_
          refine g_l 328 rfl rfl ?_
          refine g_l 330 rfl rfl ?_
          refine g_callE rfl (show Ev L _ k_X8_bits [vR 137, vI (p : Int)] K (some (vI (c p))) K from ?_) ?_ (hr := rcvM rfl)
          · have := m_bits (L := L) (d := d + 2) (I := K) (v := fun i => K 138 i) (p := p) (fun _ _ => rfl) (by omega)
            simp only [k2 p (show p < 8 by omega)] at this
            exact this
          · refine g_l 335 rfl rfl ?_
            refine g_ld2 338 rfl ?_
            refine g_ldiv 339 rfl (by omega) (by omega) ?_
            refine g_ld2 342 rfl ?_
            refine g_lrem 343 rfl (by omega) (by omega) ?_
            refine g_p 344 rfl rfl ?_
            rw [zl2i_eq (by omega)]
            have e1 : nxt x / 65536 % 4 = ((nxt x / 65536 % 4).toNat : Int) := by omega
            rw [e1]
            refine g_callE rfl (m_turned (nxt x / 65536 % 4).toNat (by omega)) ?_
            refine g_ias (1 + p) rfl rfl (by omega) (by omega) (by omega) ?_
            refine g_l 351 rfl rfl ?_
            refine g_goto rfl ?_
            refine ih (p + 1) (nxt x) (zup c p (tqs (c p) (nxt x / 65536 % 4).toNat)) _ _ _ _ (by omega) (by omega) (by rw [zup2_an (by omega)]; exact k1) (fun j hj => ?_) (fun j hj => ?_) (fun q q1 q2 => by rw [zup2_ne q1]; exact k3 q q1 q2)
            · by_cases hjp : j = p
              · rw [hjp, zup2_at, zup_s]
              · rw [zup2_an (by omega), zup_n hjp, k2 j hj]
            · rw [km j hj, if_pos g2, if_pos g2, trF]
  have mix : ∀ (i : Nat) (x : Int) (c : Nat → Int) (K : zI) (o10 o11 o12 : Option zV), i < 8 → (0 ≤ x ∧ x < 2147483648) → K 138 0 = (wn : Int) * (gn : Int) → (∀ j, j < 8 → K 138 (1 + j) = c j) → mxF (wn * gn - 1) (pX (3 * wn + 1) (3 * gn + 1) s ((3 * wn + 1) * (3 * gn + 1))) (fun p => if p < wn * gn then ctF (pC (3 * wn + 1) (3 * gn + 1) s) (3 * wn + 1) (3 * (p % wn)) (3 * (p / wn)) 16 else v (1 + p)) = mxF i x c → (∀ q, q ≠ 138 → q ≠ 141 → K q = I q) → Go L (d + 3) k_X8_makeNow 222 [some (vR 137), some (vI s), some (vI wn), some (vI gn), some (vI tu), some (vI ((3 * wn + 1 : Nat) : Int)), some (vI ((3 * gn + 1 : Nat) : Int)), some (vL x), none, some (vI i), o10, o11, o12] [] K (fun r J => r = some (vI ((wn : Int) * (gn : Int))) ∧ AL J (vMk v s wn gn tu) ∧ ∀ q, q ≠ 138 → q ≠ 141 → J q = I q) := by
    intro i
    induction i with
    | zero =>
      intro x c K o10 o11 o12 hi hx k1 k2 km k3
      refine g_l 224 rfl rfl ?_
      refine g_if_le rfl (by omega) (fun g => ?_) (fun g => ?_)
      · refine g_p 296 rfl rfl ?_
        refine g_l 298 rfl rfl ?_
        refine turn (wn * gn) 0 x c K _ _ _ (by omega) hx k1 k2 (fun j hj => ?_) k3
        unfold mkC
        rw [km]
        split <;> rfl
      · exact absurd g (by decide)
    | succ i ih =>
      intro x c K o10 o11 o12 hi hx k1 k2 km k3
      have hnr := nxt_rng x
      rw [mxF] at km
      generalize ho : (nxt x / 65536 % ((i : Int) + 2)).toNat = o at km
      have ho2 : nxt x / 65536 % ((i : Int) + 2) = (o : Int) := by
        have := Int.emod_nonneg (nxt x / 65536) (show (i : Int) + 2 ≠ 0 by omega)
        omega
      have ho3 : o < 8 := by
        have := Int.emod_lt_of_pos (nxt x / 65536) (show 0 < (i : Int) + 2 by omega)
        omega
      refine g_l 224 rfl rfl ?_
      refine g_if_le rfl (by omega) (fun g => ?_) (fun g => ?_)
      · exact absurd g (by omega)
      · refine g_l 229 rfl rfl ?_
        refine g_callE rfl (m_nextDrawn hx) ?_
        refine g_l 234 rfl rfl ?_
        refine g_l 236 rfl rfl ?_
        refine g_ld2 239 rfl ?_
        refine g_ldiv 240 rfl (by omega) (by omega) ?_
        refine g_l 242 rfl rfl ?_
        refine g_p 243 rfl rfl ?_
        refine g_p 244 rfl rfl ?_
        refine g_i2l 245 rfl (by omega) ?_
        refine g_lrem 246 rfl (by omega) (by omega) ?_
        have e1 : nxt x / 65536 % (((i + 1 : Nat) : Int) + 1) = (o : Int) := by
          rw [← ho2]
          congr 1
        rw [e1]
        refine g_p 247 rfl rfl ?_
        rw [zl2i_eq (by omega)]
        refine g_l 249 rfl rfl ?_
        refine g_l 250 rfl rfl ?_
        refine g_fr rfl rfl ⟨⟨by decide, by omega, by decide⟩, by decide⟩ rfl ?_
        refine g_p 254 rfl rfl ?_
        refine g_l 256 rfl rfl ?_
        refine g_p 257 rfl rfl ?_
        refine g_ia (1 + (i + 1)) rfl rfl (by omega) (by omega) ?_
        rw [k2 (i + 1) (by omega)]
        refine g_l 260 rfl rfl ?_
        refine g_l 261 rfl rfl ?_
        refine g_fr rfl rfl ⟨⟨by decide, by omega, by decide⟩, by decide⟩ rfl ?_
        refine g_p 265 rfl rfl ?_
        refine g_l 267 rfl rfl ?_
        refine g_p 268 rfl rfl ?_
        refine g_l 269 rfl rfl ?_
        refine g_fr rfl rfl ⟨⟨by decide, by omega, by decide⟩, by decide⟩ rfl ?_
        refine g_p 273 rfl rfl ?_
        refine g_l 275 rfl rfl ?_
        refine g_p 276 rfl rfl ?_
        refine g_ia (1 + o) rfl rfl (by omega) (by omega) ?_
        rw [k2 o ho3]
        refine g_ias (1 + (i + 1)) rfl rfl (by omega) (by omega) (by omega) ?_
        refine g_l 279 rfl rfl ?_
        refine g_fr rfl rfl ⟨⟨by decide, by omega, by decide⟩, by decide⟩ rfl ?_
        refine g_p 283 rfl rfl ?_
        refine g_l 285 rfl rfl ?_
        refine g_p 286 rfl rfl ?_
        refine g_l 288 rfl rfl ?_
        refine g_ias (1 + o) rfl rfl (by omega) (by omega) (by omega) ?_
        refine g_l 292 rfl rfl ?_
        refine g_goto rfl ?_
        have e2 : ((i + 1 : Nat) : Int) + -1 = (i : Int) := by omega
        have h := ih (nxt x) (zup (zup c (i + 1) (c o)) o (c (i + 1))) (zup2 (zup2 K 138 (1 + (i + 1)) (c o)) 138 (1 + o) (c (i + 1))) (some (vI (o : Int))) (some (vI (c (i + 1)))) o12 (by omega) (by omega) (by rw [zup2_an (by omega), zup2_an (by omega)]; exact k1) (fun j hj => ?_) km (fun q q1 q2 => by rw [zup2_ne q1, zup2_ne q1]; exact k3 q q1 q2)
        · rw [e2]
          exact h
        · by_cases hjo : j = o
          · rw [hjo, zup2_at, zup_s]
          · rw [zup2_an (by omega), zup_n hjo]
            by_cases hji : j = i + 1
            · rw [hji, zup2_at, zup_s]
            · rw [zup2_an (by omega), zup_n hji]
              exact k2 j hj
  have pr := pX_rng (C := 3 * wn + 1) (R := 3 * gn + 1) hsr ((3 * wn + 1) * (3 * gn + 1))
  have cut : ∀ (m p : Nat) (K : zI) (o10 o11 o12 : Option zV), p + m = wn * gn → K 138 0 = (wn : Int) * (gn : Int) → (∀ j, j < (3 * wn + 1) * (3 * gn + 1) → K 141 j = pC (3 * wn + 1) (3 * gn + 1) s j) → (∀ j, j < 8 → K 138 (1 + j) = if j < p then ctF (pC (3 * wn + 1) (3 * gn + 1) s) (3 * wn + 1) (3 * (j % wn)) (3 * (j / wn)) 16 else v (1 + j)) → (∀ q, q ≠ 138 → q ≠ 141 → K q = I q) → Go L (d + 3) k_X8_makeNow 126 [some (vR 137), some (vI s), some (vI wn), some (vI gn), some (vI tu), some (vI ((3 * wn + 1 : Nat) : Int)), some (vI ((3 * gn + 1 : Nat) : Int)), some (vL (pX (3 * wn + 1) (3 * gn + 1) s ((3 * wn + 1) * (3 * gn + 1)))), none, some (vI p), o10, o11, o12] [] K (fun r J => r = some (vI ((wn : Int) * (gn : Int))) ∧ AL J (vMk v s wn gn tu) ∧ ∀ q, q ≠ 138 → q ≠ 141 → J q = I q) := by
    intro m
    induction m with
    | zero =>
      intro p K o10 o11 o12 hp k1 k141 k2 k3
      have hp : p = wn * gn := by omega
      subst hp
      refine g_l 128 rfl rfl ?_
      refine g_l 129 rfl rfl ?_
      refine g_l 130 rfl rfl ?_
      refine g_p 131 rfl rfl ?_
      rw [en]
      refine g_ic_ge rfl (by omega) (by omega) (fun g => ?_) (fun g => ?_)
      · refine g_l 216 rfl rfl ?_
        refine g_l 217 rfl rfl ?_
        refine g_p 218 rfl rfl ?_
        refine g_p 219 rfl rfl ?_
        refine g_p 220 rfl rfl ?_
        refine g_l 222 rfl rfl ?_
        rw [en, show ((wn * gn : Nat) : Int) - 1 = ((wn * gn - 1 : Nat) : Int) by omega]
        exact mix (wn * gn - 1) _ (fun p => if p < wn * gn then ctF (pC (3 * wn + 1) (3 * gn + 1) s) (3 * wn + 1) (3 * (p % wn)) (3 * (p / wn)) 16 else v (1 + p)) K _ _ _ (by omega) pr k1 k2 rfl k3
      · exact absurd g (by omega)
    | succ m ih =>
      intro p K o10 o11 o12 hp k1 k141 k2 k3
      have hfit := mk_fits wn (by omega) gn (by omega) n8 p (by omega) (by omega)
      have hfit3 := mk_fit3 wn (by omega) gn (by omega) n8 p (by omega) (by omega)
      have inner : ∀ (m i : Nat) (o12 : Option zV), i + m = 16 → Go L (d + 3) k_X8_makeNow 140 [some (vR 137), some (vI s), some (vI wn), some (vI gn), some (vI tu), some (vI ((3 * wn + 1 : Nat) : Int)), some (vI ((3 * gn + 1 : Nat) : Int)), some (vL (pX (3 * wn + 1) (3 * gn + 1) s ((3 * wn + 1) * (3 * gn + 1)))), none, some (vI p), some (vI (ctF (pC (3 * wn + 1) (3 * gn + 1) s) (3 * wn + 1) (3 * (p % wn)) (3 * (p / wn)) i)), some (vI i), o12] [] K (fun r J => r = some (vI ((wn : Int) * (gn : Int))) ∧ AL J (vMk v s wn gn tu) ∧ ∀ q, q ≠ 138 → q ≠ 141 → J q = I q) := by
        intro m
        induction m with
        | zero =>
          intro i o12 hi
          have hi : i = 16 := by omega
          subst hi
          refine g_l 142 rfl rfl ?_
          refine g_p 144 rfl rfl ?_
          refine g_ic_ge rfl (by omega) (by omega) (fun g => ?_) (fun g => ?_)
          · refine g_l 199 rfl rfl ?_
            refine g_fr rfl rfl ⟨⟨by decide, by omega, by decide⟩, by decide⟩ rfl ?_
            refine g_p 203 rfl rfl ?_
            refine g_l 205 rfl rfl ?_
            refine g_p 206 rfl rfl ?_
            refine g_l 208 rfl rfl ?_
            refine g_ias (1 + p) rfl rfl (by omega) (by omega) (by omega) ?_
            refine g_l 212 rfl rfl ?_
            refine g_goto rfl ?_
            refine ih (p + 1) _ _ _ _ (by omega) (by rw [zup2_an (by omega)]; exact k1) (by rw [zup2_ne (by omega)]; exact k141) (fun j hj => ?_) (fun q q1 q2 => by rw [zup2_ne q1]; exact k3 q q1 q2)
            by_cases hjp : j = p
            · rw [hjp, zup2_at, if_pos (by omega)]
            · rw [zup2_an (by omega), k2 j hj]
              by_cases hjq : j < p
              · rw [if_pos hjq, if_pos (by omega)]
              · rw [if_neg hjq, if_neg (by omega)]
          · exact absurd g (by omega)
        | succ m ih2 =>
          intro i o12 hi
          have hle : (3 * wn + 1) * (3 * (p / wn) + i / 4) ≤ (3 * wn + 1) * (3 * (p / wn) + 3) := Nat.mul_le_mul_left _ (by omega)
          refine g_l 142 rfl rfl ?_
          refine g_p 144 rfl rfl ?_
          refine g_ic_ge rfl (by omega) (by omega) (fun g => ?_) (fun g => ?_)
          · exact absurd g (by omega)
          · refine g_p 148 rfl rfl ?_
            refine g_l 150 rfl rfl ?_
            refine g_l 151 rfl rfl ?_
            refine g_div 152 rfl (by omega) (by omega) ?_
            refine g_p 153 rfl rfl ?_
            refine g_l 155 rfl rfl ?_
            refine g_p 156 rfl rfl ?_
            refine g_div 157 rfl (by omega) (by omega) ?_
            refine g_p 158 rfl rfl ?_
            refine g_l 160 rfl rfl ?_
            refine g_p 161 rfl rfl ?_
            refine g_p 162 rfl rfl ?_
            refine g_l 164 rfl rfl ?_
            refine g_l 165 rfl rfl ?_
            refine g_rem 166 rfl (by omega) (by omega) ?_
            refine g_p 167 rfl rfl ?_
            refine g_p 168 rfl rfl ?_
            refine g_l 170 rfl rfl ?_
            refine g_p 171 rfl rfl ?_
            refine g_rem 172 rfl (by omega) (by omega) ?_
            refine g_p 173 rfl rfl ?_
            refine g_l 175 rfl rfl ?_
            refine g_l 177 rfl rfl ?_
            refine g_l 178 rfl rfl ?_
            refine g_fr rfl rfl ⟨⟨by decide, by omega, by decide⟩, by decide⟩ rfl ?_
            refine g_l 183 rfl rfl ?_
            have e : (3 * ((p : Int) / (wn : Int)) + (i : Int) / 4) * ((3 * wn + 1 : Nat) : Int) + 3 * ((p : Int) % (wn : Int)) + (i : Int) % 4 = (((3 * wn + 1) * (3 * (p / wn) + i / 4) + 3 * (p % wn) + i % 4 : Nat) : Int) := by
              rw [Nat.mul_comm (3 * wn + 1)]
              push_cast
              rfl
            refine g_ia ((3 * wn + 1) * (3 * (p / wn) + i / 4) + 3 * (p % wn) + i % 4) rfl rfl e (by omega) ?_
            rw [k141 _ (by omega)]
            refine g_p 185 rfl rfl ?_
            refine g_l 187 rfl rfl ?_
            refine g_p 188 rfl rfl ?_
            refine g_p 189 rfl rfl ?_
            refine g_p 190 rfl rfl ?_
            refine g_l 192 rfl rfl ?_
            refine g_l 195 rfl rfl ?_
            refine g_goto rfl ?_
            exact ih2 (i + 1) _ (by omega)
      refine g_l 128 rfl rfl ?_
      refine g_l 129 rfl rfl ?_
      refine g_l 130 rfl rfl ?_
      refine g_p 131 rfl rfl ?_
      rw [en]
      refine g_ic_ge rfl (by omega) (by omega) (fun g => ?_) (fun g => ?_)
      · exact absurd g (by omega)
      · refine g_p 135 rfl rfl ?_
        refine g_l 137 rfl rfl ?_
        refine g_p 138 rfl rfl ?_
        refine g_l 140 rfl rfl ?_
        exact inner 16 0 _ rfl
  have paint : ∀ (m k : Nat) (K : zI) (o10 o11 o12 : Option zV), k + m = (3 * wn + 1) * (3 * gn + 1) → (∀ j, j < k → K 141 j = pC (3 * wn + 1) (3 * gn + 1) s j) → (∀ q, q ≠ 141 → K q = I q) → Go L (d + 3) k_X8_makeNow 21 [some (vR 137), some (vI s), some (vI wn), some (vI gn), some (vI tu), some (vI ((3 * wn + 1 : Nat) : Int)), some (vI ((3 * gn + 1 : Nat) : Int)), some (vL (pX (3 * wn + 1) (3 * gn + 1) s k)), none, some (vI k), o10, o11, o12] [] K (fun r J => r = some (vI ((wn : Int) * (gn : Int))) ∧ AL J (vMk v s wn gn tu) ∧ ∀ q, q ≠ 138 → q ≠ 141 → J q = I q) := by
    intro m
    induction m with
    | zero =>
      intro k K o10 o11 o12 hk k1 k2
      have hk : k = (3 * wn + 1) * (3 * gn + 1) := by omega
      refine g_l 23 rfl rfl ?_
      refine g_l 25 rfl rfl ?_
      refine g_l 27 rfl rfl ?_
      refine g_p 28 rfl rfl ?_
      rw [eCR]
      refine g_ic_ge rfl (by omega) (by omega) (fun g => ?_) (fun g => ?_)
      · refine g_l 115 rfl rfl ?_
        refine g_fr rfl rfl ⟨⟨by decide, by omega, by decide⟩, by decide⟩ rfl ?_
        refine g_p 119 rfl rfl ?_
        refine g_l 120 rfl rfl ?_
        refine g_l 121 rfl rfl ?_
        refine g_p 122 rfl rfl ?_
        refine g_ias 0 rfl rfl (by omega) rfl (by omega) ?_
        refine g_p 124 rfl rfl ?_
        refine g_l 126 rfl rfl ?_
        subst hk
        refine cut (wn * gn) 0 _ _ _ _ (by omega) zup2_at (by rw [zup2_ne (by omega)]; exact k1) (fun j hj => ?_) (fun q q1 q2 => by rw [zup2_ne q1]; exact k2 q q2)
        rw [zup2_an (by omega), if_neg (by omega), k2 138 (by omega)]
        exact hA _ (by omega)
      · exact absurd g (by omega)
    | succ m ih =>
      intro k K o10 o11 o12 hk k1 k2
      have hpr := pX_rng (C := 3 * wn + 1) (R := 3 * gn + 1) hsr k
      have hnr := nxt_rng (pX (3 * wn + 1) (3 * gn + 1) s k)
      obtain ⟨ka, hka1⟩ : ∃ ka, ka = k % (3 * wn + 1) := ⟨_, rfl⟩
      obtain ⟨kb, hkb1⟩ : ∃ kb, kb = k / (3 * wn + 1) := ⟨_, rfl⟩
      have hka : (k : Int) % ((3 * wn + 1 : Nat) : Int) = (ka : Int) := by rw [hka1]; exact (Int.natCast_emod _ _).symm
      have hkb : (k : Int) / ((3 * wn + 1 : Nat) : Int) = (kb : Int) := by rw [hkb1]; exact (Int.natCast_ediv _ _).symm
      have la : ka ≤ k := by rw [hka1]; exact Nat.mod_le _ _
      have lb : kb ≤ k := by rw [hkb1]; exact Nat.div_le_self _ _
      have hinn : inn (3 * wn + 1) (3 * gn + 1) k ↔ ((0 < ka ∧ ka + 1 < 3 * wn + 1) ∧ 0 < kb ∧ kb + 1 < 3 * gn + 1) := by rw [hka1, hkb1]
      have nxtK : ∀ (K2 : zI) (o10 o11 : Option zV), K2 141 k = pC (3 * wn + 1) (3 * gn + 1) s k → (∀ j, j ≠ k → K2 141 j = K 141 j) → (∀ q, q ≠ 141 → K2 q = K q) → Go L (d + 3) k_X8_makeNow 108 [some (vR 137), some (vI s), some (vI wn), some (vI gn), some (vI tu), some (vI ((3 * wn + 1 : Nat) : Int)), some (vI ((3 * gn + 1 : Nat) : Int)), some (vL (pX (3 * wn + 1) (3 * gn + 1) s (k + 1))), none, some (vI k), o10, o11, o12] [] K2 (fun r J => r = some (vI ((wn : Int) * (gn : Int))) ∧ AL J (vMk v s wn gn tu) ∧ ∀ q, q ≠ 138 → q ≠ 141 → J q = I q) := by
        intro K2 o10 o11 h1 h2 h3
        refine g_l 111 rfl rfl ?_
        refine g_goto rfl ?_
        refine ih (k + 1) K2 _ _ _ (by omega) (fun j hj => ?_) (fun q hq => by rw [h3 q hq]; exact k2 q hq)
        by_cases hjk : j = k
        · rw [hjk]
          exact h1
        · rw [h2 j hjk]
          exact k1 j (by omega)
      refine g_l 23 rfl rfl ?_
      refine g_l 25 rfl rfl ?_
      refine g_l 27 rfl rfl ?_
      refine g_p 28 rfl rfl ?_
      rw [eCR]
      refine g_ic_ge rfl (by omega) (by omega) (fun g => ?_) (fun g => ?_)
      · exact absurd g (by omega)
      · refine g_l 33 rfl rfl ?_
        refine g_l 35 rfl rfl ?_
        refine g_rem 36 rfl (by omega) (by omega) ?_
        rw [hka]
        refine g_l 38 rfl rfl ?_
        refine g_l 40 rfl rfl ?_
        refine g_l 42 rfl rfl ?_
        refine g_div 43 rfl (by omega) (by omega) ?_
        rw [hkb]
        refine g_l 45 rfl rfl ?_
        refine g_l 46 rfl rfl ?_
        refine g_fr rfl rfl ⟨⟨by decide, by omega, by decide⟩, by decide⟩ rfl ?_
        refine g_l 51 rfl rfl ?_
        refine g_p 52 rfl rfl ?_
        refine g_ias k rfl rfl (by omega) rfl (by omega) ?_
        have out : ∀ (o10 o11 : Option zV), ¬ inn (3 * wn + 1) (3 * gn + 1) k → Go L (d + 3) k_X8_makeNow 108 [some (vR 137), some (vI s), some (vI wn), some (vI gn), some (vI tu), some (vI ((3 * wn + 1 : Nat) : Int)), some (vI ((3 * gn + 1 : Nat) : Int)), some (vL (pX (3 * wn + 1) (3 * gn + 1) s k)), none, some (vI k), o10, o11, o12] [] (zup2 K 141 k 0) (fun r J => r = some (vI ((wn : Int) * (gn : Int))) ∧ AL J (vMk v s wn gn tu) ∧ ∀ q, q ≠ 138 → q ≠ 141 → J q = I q) := fun o10 o11 hno => by
          have h := nxtK (zup2 K 141 k 0) o10 o11 (by rw [zup2_at, pC, if_neg hno]) (fun j hj => zup2_an hj) (fun q hq => zup2_ne hq)
          rw [pX, if_neg hno] at h
          exact h
        refine g_l 55 rfl rfl ?_
        refine g_if_le rfl (by omega) (fun g1 => ?_) (fun g1 => ?_)
        · exact out _ _ (fun z => absurd (hinn.mp z).1.1 (by omega))
        · refine g_l 60 rfl rfl ?_
          refine g_l 62 rfl rfl ?_
          refine g_p 63 rfl rfl ?_
          refine g_p 64 rfl rfl ?_
          refine g_ic_ge rfl (by omega) (by omega) (fun g2 => ?_) (fun g2 => ?_)
          · exact out _ _ (fun z => absurd (hinn.mp z).1.2 (by omega))
          · refine g_l 69 rfl rfl ?_
            refine g_if_le rfl (by omega) (fun g3 => ?_) (fun g3 => ?_)
            · exact out _ _ (fun z => absurd (hinn.mp z).2.1 (by omega))
            · refine g_l 74 rfl rfl ?_
              refine g_l 76 rfl rfl ?_
              refine g_p 77 rfl rfl ?_
              refine g_p 78 rfl rfl ?_
              refine g_ic_ge rfl (by omega) (by omega) (fun g4 => ?_) (fun g4 => ?_)
              · exact out _ _ (fun z => absurd (hinn.mp z).2.2 (by omega))
              · have hin : inn (3 * wn + 1) (3 * gn + 1) k := hinn.mpr ⟨⟨by omega, by omega⟩, by omega, by omega⟩
                refine g_l 83 rfl rfl ?_
                refine g_callE rfl (m_nextDrawn hpr) ?_
                refine g_l 88 rfl rfl ?_
                refine g_l 89 rfl rfl ?_
                refine g_fr rfl rfl ⟨⟨by decide, by omega, by decide⟩, by decide⟩ rfl ?_
                refine g_l 94 rfl rfl ?_
                refine g_l 96 rfl rfl ?_
                refine g_ld2 99 rfl ?_
                refine g_ldiv 100 rfl (by omega) (by omega) ?_
                refine g_ld2 103 rfl ?_
                refine g_lrem 104 rfl (by omega) (by omega) ?_
                refine g_p 105 rfl rfl ?_
                rw [zl2i_eq (by omega)]
                refine g_p 106 rfl rfl ?_
                refine g_p 107 rfl rfl ?_
                refine g_ias k rfl rfl (by omega) rfl (by omega) ?_
                have h := nxtK (zup2 (zup2 K 141 k 0) 141 k (nxt (pX (3 * wn + 1) (3 * gn + 1) s k) / 65536 % 3 + 1)) (some (vI (ka : Int))) (some (vI (kb : Int))) (by rw [zup2_at, pC, if_pos hin]) (fun j hj => by rw [zup2_an hj, zup2_an hj]) (fun q hq => by rw [zup2_ne hq, zup2_ne hq])
                rw [pX, if_pos hin] at h
                exact h
  show Go L (d + 3) k_X8_makeNow 0 [some (vR 137), some (vI s), some (vI wn), some (vI gn), some (vI tu), none, none, none, none, none, none, none, none] [] I _
  refine g_p 1 rfl rfl ?_
  refine g_l 2 rfl rfl ?_
  refine g_p 3 rfl rfl ?_
  refine g_p 4 rfl rfl ?_
  refine g_p 5 rfl rfl ?_
  refine g_l 7 rfl rfl ?_
  refine g_p 8 rfl rfl ?_
  refine g_l 9 rfl rfl ?_
  refine g_p 10 rfl rfl ?_
  refine g_p 11 rfl rfl ?_
  refine g_p 12 rfl rfl ?_
  refine g_l 14 rfl rfl ?_
  refine g_l 15 rfl rfl ?_
  refine g_i2l 16 rfl (by omega) ?_
  refine g_l 18 rfl rfl ?_
  refine g_p 19 rfl rfl ?_
  refine g_l 21 rfl rfl ?_
  have ew : 3 * (wn : Int) + 1 = ((3 * wn + 1 : Nat) : Int) := by omega
  have eg2 : 3 * (gn : Int) + 1 = ((3 * gn + 1 : Nat) : Int) := by omega
  rw [ew, eg2]
  exact paint ((3 * wn + 1) * (3 * gn + 1)) 0 I _ _ _ (Nat.zero_add _) (fun j hj => absurd hj (by omega)) (fun _ _ => rfl)
theorem PY.yes2 {J M : zI} {z : Int} {w : Nat → Int} (hz : 0 ≤ z) (h : MI M v (hpush hs hn v) (if hn < 6 then hn + 1 else 6) ct tx tl ∧ FrM I M) (hA : AL J w) (ho : OKv w) (hq : ∀ q, q ≠ 138 → q ≠ 141 → J q = M q) : PY I (z, w) v hs hn ct tx tl (some (vI z)) J := by
  refine ⟨rfl, ?_, fun q a => by rw [hq q (by omega) (by omega)]; exact h.2 q a⟩
  show MI J w (mhs z v hs hn) (mhn z hn) (mct z ct) tx tl
  have e1 : mhs z v hs hn = hpush hs hn v := if_neg (by omega)
  have e2 : mhn z hn = (if hn < 6 then hn + 1 else 6) := if_neg (by omega)
  have e3 : mct z ct = ct := if_neg (by omega)
  rw [e1, e2, e3]
  exact h.1.new2 hA ho hq
theorem m_makes {s w g tu : Int} (h : MI I v hs hn ct tx tl) (hs1 : rng s) (hw : rng w) (hg : rng g) (ht : rng tu) : Ct L (d + 4) k_X8_makes [vR 137, vI s, vI w, vI g, vI tu] I (PY I (sMk v s w g tu) v hs hn ct tx tl) := by
  have hok := ok_mk (s := s) (w := w) (h := g) (tu := tu) h.2.1
  show Go L (d + 4) k_X8_makes 0 [some (vR 137), some (vI s), some (vI w), some (vI g), some (vI tu)] [] I _
  refine g_l 1 rfl rfl ?_
  refine g_l 2 rfl rfl ?_
  refine g_l 3 rfl rfl ?_
  refine g_l 4 rfl rfl ?_
  refine g_l 6 rfl rfl ?_
  refine g_callE rfl (m_canMake hs1 hw hg ht) ?_ (hr := rcvM rfl)
  unfold sMk at hok ⊢
  by_cases hm : mkOK s w g tu
  · rw [if_pos hm] at hok ⊢
    rw [if_pos hm]
    refine g_if_ge rfl (by omega) (fun g1 => ?_) (fun g1 => ?_)
    · obtain ⟨wn, gn, rfl, rfl, w1, h1, n1, n8⟩ := tsz_nat hm.2.1
      refine g_l 20 rfl rfl ?_
      refine g_call rfl (m_keep h) (fun r J hJ => ?_) (hr := rcvM rfl)
      obtain ⟨rfl, hJ⟩ := hJ
      refine g_l 24 rfl rfl ?_
      refine g_l 25 rfl rfl ?_
      refine g_l 26 rfl rfl ?_
      refine g_l 27 rfl rfl ?_
      refine g_l 29 rfl rfl ?_
      refine g_call rfl (m_makeNow hJ.1.1 hJ.1.2.1 hm.1 w1 h1 n1 n8 hm.2.2) (fun r K hK => ?_) (hr := rcvM rfl)
      obtain ⟨rfl, k1, k2⟩ := hK
      have e : (wn : Int) * (gn : Int) = ((wn * gn : Nat) : Int) := (Int.natCast_mul _ _).symm
      exact g_ret rfl rfl (PY.yes2 (by omega) hJ k1 hok k2)
    · exact absurd (show (0 : Int) ≤ 0 by decide) g1
  · rw [if_neg hm]
    rw [if_neg hm]
    refine g_if_ge rfl (by omega) (fun g1 => ?_) (fun g1 => ?_)
    · exact absurd g1 (by decide)
    · refine g_l 13 rfl rfl ?_
      refine g_p 15 rfl rfl ?_
      refine g_call rfl (m_refuse (Or.inl rfl) h) (fun r J hJ => ?_) (hr := rcvM rfl)
      obtain ⟨rfl, hJ⟩ := hJ
      exact g_ret rfl rfl (PY.no (Or.inl rfl) hJ)
end MM
