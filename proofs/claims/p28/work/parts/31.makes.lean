/-! makePieces -/
theorem mk_fit3 : ∀ w, w < 9 → ∀ h, h < 9 → w * h ≤ 8 → ∀ p, p < 8 → p < w * h → ((3 * w + 1) * (3 * (p / w) + 3) + 3 * (p % w) + 3 < (3 * w + 1) * (3 * h + 1)) := by decide +kernel
theorem tsz_nat {w h : Int} (h0 : tsz w h) : ∃ wn hn : Nat, w = wn ∧ h = hn ∧ (1 ≤ wn ∧ wn ≤ 8) ∧ (1 ≤ hn ∧ hn ≤ 8) ∧ 1 ≤ wn * hn ∧ wn * hn ≤ 8 := by
  obtain ⟨a, b, c⟩ := h0
  obtain ⟨wn, hw⟩ := Int.eq_ofNat_of_zero_le (show 0 ≤ w by omega)
  obtain ⟨hn, hh⟩ := Int.eq_ofNat_of_zero_le (show 0 ≤ h by omega)
  subst hw
  subst hh
  have e : ((wn * hn : Nat) : Int) = (wn : Int) * (hn : Int) := Int.natCast_mul _ _
  refine ⟨wn, hn, rfl, rfl, by omega, by omega, Nat.mul_pos (by omega) (by omega), by omega⟩
section MP
variable {L d : Nat} {I : zI}
theorem c_makePieces {v : Nat → Int} {s w h tu : Int} (hv : StAt I 3 v) (ho : OKv v) (hs : rng s) (hw : rng w) (hh : rng h) (ht : rng tu) : Ct L (d + 4) k_X2_makePieces [vR 81, vR 3, vI s, vI w, vI h, vI tu] I (fun r J => r = some (vI (sMk v s w h tu).1) ∧ StAt J 3 (sMk v s w h tu).2 ∧ ∀ q, (q < 3 ∨ 7 ≤ q) → q ≠ 81 → q ≠ 82 → J q = I q) := by
  have bad : ¬ mkOK s w h tu → Go L (d + 4) k_X2_makePieces 27 [some (vR 81), some (vR 3), some (vI s), some (vI w), some (vI h), some (vI tu), none] [] I (fun r J => r = some (vI (sMk v s w h tu).1) ∧ StAt J 3 (sMk v s w h tu).2 ∧ ∀ q, (q < 3 ∨ 7 ≤ q) → q ≠ 81 → q ≠ 82 → J q = I q) := fun hno => by
    refine g_p 29 rfl rfl ?_
    unfold sMk
    rw [if_neg hno]
    exact g_ret rfl rfl ⟨rfl, hv, fun _ _ _ _ => rfl⟩
  show Go L (d + 4) k_X2_makePieces 0 [some (vR 81), some (vR 3), some (vI s), some (vI w), some (vI h), some (vI tu), none] [] I _
  refine g_l 1 rfl rfl ?_
  refine g_if_lt rfl (by omega) (fun g1 => ?_) (fun g1 => ?_)
  · exact bad (fun z => absurd z.1 (by omega))
  · refine g_l 5 rfl rfl ?_
    refine g_ld 7 rfl ?_
    refine g_ic_gt rfl (by omega) (by omega) (fun g2 => ?_) (fun g2 => ?_)
    · exact bad (fun z => absurd z.1 (by omega))
    · refine g_l 11 rfl rfl ?_
      refine g_l 13 rfl rfl ?_
      refine g_callE rfl (c_isTableSize hw hh) ?_
      have hb1 := b2i_r (tsz w h)
      refine g_if_eq rfl (by omega) (fun g3 => ?_) (fun g3 => ?_)
      · exact bad (fun z => absurd z.2.1 (b2i_0 g3))
      · have g3 := b2i_1 g3
        refine g_l 21 rfl rfl ?_
        refine g_callE rfl (c_isFlag ht) ?_
        have hb2 := b2i_r (tu = 0 ∨ tu = 1)
        refine g_if_ne rfl (by omega) (fun g4 => ?_) (fun g4 => ?_)
        · have g4 := b2i_1 g4
          have hok : mkOK s w h tu := ⟨by omega, g3, g4⟩
          unfold sMk
          rw [if_pos hok]
          obtain ⟨wn, hn, rfl, rfl, w1, h1, n1, n8⟩ := tsz_nat g3
          generalize hz : vMk v s wn hn tu = z
          have hfit2 := mk_fit2 wn (by omega) hn (by omega) n8 w1.1 h1.1
          have ew : 3 * (wn : Int) + 1 = ((3 * wn + 1 : Nat) : Int) := by omega
          have eh : 3 * (hn : Int) + 1 = ((3 * hn + 1 : Nat) : Int) := by omega
          have en : (wn : Int) * (hn : Int) = ((wn * hn : Nat) : Int) := (Int.natCast_mul _ _).symm
          have hsr : 0 ≤ s ∧ s < 2147483648 := by omega
          refine g_l 31 rfl rfl ?_
          refine g_l 32 rfl rfl ?_
          refine g_i2l 33 rfl (by omega) ?_
          refine g_wl rfl rfl ⟨⟨by decide, by omega, by decide⟩, by decide⟩ ?_
          refine g_l 37 rfl rfl ?_
          refine g_p 38 rfl rfl ?_
          refine g_l 39 rfl rfl ?_
          refine g_p 40 rfl rfl ?_
          refine g_p 41 rfl rfl ?_
          refine g_p 42 rfl rfl ?_
          refine g_p 43 rfl rfl ?_
          refine g_l 45 rfl rfl ?_
          refine g_p 46 rfl rfl ?_
          refine g_p 47 rfl rfl ?_
          refine g_p 48 rfl rfl ?_
          rw [ew, eh]
          refine g_call rfl (c_paint (s := s) (by omega) (by omega) hfit2 hsr zup2_at) (fun r J hJ => ?_)
          obtain ⟨rfl, p1, p2, p3⟩ := hJ
          have pr := pX_rng (C := 3 * wn + 1) (R := 3 * hn + 1) hsr ((3 * wn + 1) * (3 * hn + 1))
          generalize hx1 : pX (3 * wn + 1) (3 * hn + 1) s ((3 * wn + 1) * (3 * hn + 1)) = x1 at p1 pr
          generalize hg : pC (3 * wn + 1) (3 * hn + 1) s = gg at p2
          refine g_l 52 rfl rfl ?_
          refine g_l 53 rfl rfl ?_
          refine g_l 55 rfl rfl ?_
          refine g_p 56 rfl rfl ?_
          refine g_wi rfl rfl ⟨⟨by decide, by omega, by decide⟩, by decide⟩ ?_
          refine g_p 60 rfl rfl ?_
          refine g_l 62 rfl rfl ?_
          rw [en]
          have tail : ∀ (K : zI), K 3 0 = ((wn * hn : Nat) : Int) → (∀ j, j < 8 → K 4 j = mkC v s wn hn tu j) → (∀ q, (q < 3 ∨ 7 ≤ q) → q ≠ 81 → q ≠ 82 → K q = I q) → Go L (d + 4) k_X2_makePieces 121 [some (vR 81), some (vR 3), some (vI s), some (vI wn), some (vI hn), some (vI tu), some (vI ((wn * hn : Nat) : Int))] [] K (fun r J => r = some (vI ((wn * hn : Nat) : Int)) ∧ StAt J 3 z ∧ ∀ q, (q < 3 ∨ 7 ≤ q) → q ≠ 81 → q ≠ 82 → J q = I q) := by
            intro K k1 k2 k3
            refine g_l 122 rfl rfl ?_
            refine g_fr rfl rfl ⟨⟨by decide, by omega, by decide⟩, by decide⟩ rfl ?_
            refine g_l 126 rfl rfl ?_
            refine g_l 128 rfl rfl ?_
            refine g_callE rfl (c_reset (a := 5) (by unfold IsR; omega)) ?_ (hr := rcv (n := 3) (c := 3) rfl ⟨by decide, by omega, rfl⟩)
            refine g_l 132 rfl rfl ?_
            refine g_fi rfl rfl ⟨⟨by decide, by omega, by decide⟩, by decide⟩ ?_
            refine g_ret rfl rfl ⟨?_, ⟨?_, fun j hj => ?_, ?_, ?_, fun j hj => ?_⟩, fun q q1 q2 q3 => ?_⟩
            · rw [fl8_ne (by omega), zup2_ne (by omega), zup2_ne (by omega), k1]
            · rw [fl8_ne (by omega), zup2_ne (by omega), zup2_ne (by omega), k1, ← hz, ← en]
              rfl
            · rw [fl8_ne (by omega), zup2_ne (by omega), zup2_ne (by omega), k2 j hj, ← hz]
              unfold vMk
              rw [if_neg (by omega), if_pos (by omega), Int.toNat_natCast, Int.toNat_natCast, show 1 + j - 1 = j by omega]
            · rw [fl8_ne (by omega), zup2_an (by omega), zup2_at, ← hz]
              rfl
            · rw [fl8_ne (by omega), zup2_at, ← hz]
              rfl
            · rw [fl8_at hj, ← hz]
              unfold vMk
              rw [if_neg (by omega), if_neg (by omega), if_neg (by omega), if_neg (by omega), if_pos (by omega)]
            · rw [fl8_ne (by omega), zup2_ne (by omega), zup2_ne (by omega)]
              exact k3 q q1 q2 q3
          have mid : ∀ (K : zI), K 3 0 = ((wn * hn : Nat) : Int) → K 81 0 = x1 → (∀ j, j < 8 → K 4 j = if j < wn * hn then ctF gg (3 * wn + 1) (3 * (j % wn)) (3 * (j / wn)) 16 else v (1 + j)) → (∀ q, (q < 3 ∨ 7 ≤ q) → q ≠ 81 → q ≠ 82 → K q = I q) → Go L (d + 4) k_X2_makePieces 105 [some (vR 81), some (vR 3), some (vI s), some (vI wn), some (vI hn), some (vI tu), some (vI ((wn * hn : Nat) : Int))] [] K (fun r J => r = some (vI ((wn * hn : Nat) : Int)) ∧ StAt J 3 z ∧ ∀ q, (q < 3 ∨ 7 ≤ q) → q ≠ 81 → q ≠ 82 → J q = I q) := by
            intro K k1 k2 k3 k4
            refine g_l 106 rfl rfl ?_
            refine g_l 107 rfl rfl ?_
            refine g_call rfl (c_mix (n := wn * hn) (x := x1) (c := fun j => if j < wn * hn then ctF gg (3 * wn + 1) (3 * (j % wn)) (3 * (j / wn)) 16 else v (1 + j)) ⟨n1, n8⟩ k1 pr ⟨k2, k3, fun _ _ _ => rfl⟩) (fun r M hM => ?_)
            obtain ⟨rfl, mr, m1, m2, m3⟩ := hM
            have hM3 : M 3 0 = ((wn * hn : Nat) : Int) := by rw [m3 3 (by omega) (by omega)]; exact k1
            have hMq : ∀ q, (q < 3 ∨ 7 ≤ q) → q ≠ 81 → q ≠ 82 → M q = I q := fun q q1 q2 q3 => by rw [m3 q q2 (by omega)]; exact k4 q q1 q2 q3
            refine g_l 112 rfl rfl ?_
            refine g_p 113 rfl rfl ?_
            refine g_ic_ne rfl (by omega) (by omega) (fun g5 => ?_) (fun g5 => ?_)
            · refine tail M hM3 (fun j hj => ?_) hMq
              rw [m2 j hj]
              unfold mkC
              rw [if_neg g5, hx1, hg]
            · refine g_l 117 rfl rfl ?_
              refine g_l 118 rfl rfl ?_
              refine g_call rfl (c_turnP (n := wn * hn) n8 hM3 mr ⟨m1, m2, fun _ _ _ => rfl⟩) (fun r N hN => ?_)
              obtain ⟨rfl, t1, t2⟩ := hN
              refine tail N (by rw [t2 3 (by omega) (by omega)]; exact hM3) (fun j hj => ?_) (fun q q1 q2 q3 => by rw [t2 q q2 (by omega)]; exact hMq q q1 q2 q3)
              rw [t1 j hj]
              unfold mkC
              rw [if_pos (by omega), hx1, hg]
          have loop : ∀ (m p : Nat) (K : zI), p + m = wn * hn → K 3 0 = ((wn * hn : Nat) : Int) → K 81 0 = x1 → (∀ j, j < (3 * wn + 1) * (3 * hn + 1) → K 82 j = gg j) → (∀ j, j < 8 → K 4 j = if j < p then ctF gg (3 * wn + 1) (3 * (j % wn)) (3 * (j / wn)) 16 else v (1 + j)) → (∀ q, (q < 3 ∨ 7 ≤ q) → q ≠ 81 → q ≠ 82 → K q = I q) → Go L (d + 4) k_X2_makePieces 62 [some (vR 81), some (vR 3), some (vI s), some (vI wn), some (vI hn), some (vI tu), some (vI p)] [] K (fun r J => r = some (vI ((wn * hn : Nat) : Int)) ∧ StAt J 3 z ∧ ∀ q, (q < 3 ∨ 7 ≤ q) → q ≠ 81 → q ≠ 82 → J q = I q) := by
            intro m
            induction m with
            | zero =>
              intro p K hp k1 k2 k82 k3 k4
              have hp : p = wn * hn := by omega
              subst hp
              refine g_l 64 rfl rfl ?_
              refine g_l 65 rfl rfl ?_
              refine g_fi rfl rfl ⟨⟨by decide, by omega, by decide⟩, by decide⟩ ?_
              rw [k1]
              refine g_ic_ge rfl (by omega) (by omega) (fun g5 => ?_) (fun g5 => ?_)
              · exact mid K k1 k2 k3 k4
              · exact absurd g5 (by omega)
            | succ m ih =>
              intro p K hp k1 k2 k82 k3 k4
              have hfit := mk_fits wn (by omega) hn (by omega) n8 p (by omega) (by omega)
              have hfit3 := mk_fit3 wn (by omega) hn (by omega) n8 p (by omega) (by omega)
              refine g_l 64 rfl rfl ?_
              refine g_l 65 rfl rfl ?_
              refine g_fi rfl rfl ⟨⟨by decide, by omega, by decide⟩, by decide⟩ ?_
              rw [k1]
              refine g_ic_ge rfl (by omega) (by omega) (fun g5 => ?_) (fun g5 => ?_)
              · exact absurd g5 (by omega)
              · refine g_l 72 rfl rfl ?_
                refine g_fr rfl rfl ⟨⟨by decide, by omega, by decide⟩, by decide⟩ rfl ?_
                refine g_l 77 rfl rfl ?_
                refine g_l 78 rfl rfl ?_
                refine g_p 79 rfl rfl ?_
                refine g_l 81 rfl rfl ?_
                refine g_l 82 rfl rfl ?_
                refine g_rem 83 rfl (by omega) (by omega) ?_
                refine g_p 84 rfl rfl ?_
                refine g_p 85 rfl rfl ?_
                refine g_l 87 rfl rfl ?_
                refine g_l 88 rfl rfl ?_
                refine g_div 89 rfl (by omega) (by omega) ?_
                refine g_p 90 rfl rfl ?_
                refine g_p 91 rfl rfl ?_
                refine g_l 92 rfl rfl ?_
                refine g_p 93 rfl rfl ?_
                refine g_p 94 rfl rfl ?_
                refine g_p 95 rfl rfl ?_
                have e1 : 3 * ((p : Int) % (wn : Int)) = ((3 * (p % wn) : Nat) : Int) := by push_cast; rfl
                have e2 : 3 * ((p : Int) / (wn : Int)) = ((3 * (p / wn) : Nat) : Int) := by push_cast; rfl
                rw [e1, e2, ew]
                refine g_callE rfl (c_cutPiece (g := gg) hfit (fun j hj hj2 => k82 j (by omega))) ?_
                refine g_ias p rfl rfl (by omega) rfl (by omega) ?_
                refine g_l 102 rfl rfl ?_
                refine g_goto rfl ?_
                refine ih (p + 1) _ (by omega) (by rw [zup2_ne (by omega)]; exact k1) (by rw [zup2_ne (by omega)]; exact k2) (by rw [zup2_ne (by omega)]; exact k82) (fun j hj => ?_) (fun q q1 q2 q3 => by rw [zup2_ne (by omega)]; exact k4 q q1 q2 q3)
                by_cases hjp : j = p
                · rw [hjp, zup2_at, if_pos (by omega)]
                · rw [zup2_an hjp, k3 j hj]
                  by_cases hjq : j < p
                  · rw [if_pos hjq, if_pos (by omega)]
                  · rw [if_neg hjq, if_neg (by omega)]
          have hJq : ∀ q, q ≠ 81 → q ≠ 82 → J q = I q := fun q q1 q2 => by rw [p3 q q1 q2, zup2_ne q1]
          refine loop (wn * hn) 0 _ (by omega) zup2_at (by rw [zup2_ne (by omega)]; exact p1) (by rw [zup2_ne (by omega)]; exact p2) (fun j hj => ?_) (fun q q1 q2 q3 => by rw [zup2_ne (by omega), hJq q q2 q3])
          rw [zup2_ne (by omega), hJq 4 (by omega) (by omega), if_neg (by omega)]
          exact hv.2.1 j hj
        · exact bad (fun z => absurd z.2.2 (b2i_0 (by omega)))
end MP
