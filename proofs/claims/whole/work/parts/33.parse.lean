/-! Text: the parsing of orders -/
section PA
variable {L d : Nat} {I : zI} {tx : Nat → Int} {tl : Nat}
theorem TX.fr {I J : zI} (h : TX I tx tl) (h3 : J 83 1 = I 83 1) (h4 : J 84 = I 84) : TX J tx tl := ⟨by rw [h3]; exact h.1, h.2.1, fun j hj => by rw [h4]; exact h.2.2 j hj⟩
theorem rcv83 {q : zP} {L : Nat} {I : zI} {as : List zV} (h : (zM_ (zpA q)).1.cls = (zCl.getD 6 zCd).1) : zrcv q (mS L I) (vR 83 :: as) = true := rcv (n := 6) (c := 6) rfl ⟨by decide, by omega, h.symm⟩
theorem c_parseNumbers {k w p : Nat} (hT : TX I tx tl) (hk : k < 50) (hw : w ≤ 4) (hp : p ≤ tl) (u0 : Nat → Int) : Ct L (d + 2) k_X6_parseNumbers [vR 83, vI k, vI w] (zup2 I 83 2 p) (fun r M => ∃ J : zI, r = some (vI (if (pnF tx tl w 0 p u0).1 = true then 1 else 0)) ∧ M = zup2 J 83 2 ((pnF tx tl w 0 p u0).2.1 : Nat) ∧ (∀ q, q ≠ 87 + k → J q = I q) ∧ ((pnF tx tl w 0 p u0).1 = true → ∀ j, j < w → J (87 + k) j = (pnF tx tl w 0 p u0).2.2 j)) := by
  have key : ∀ (m i p : Nat) (u : Nat → Int) (J : zI) (o4 o5 : Option zV), i + m = w → p ≤ tl → (∀ q, q ≠ 87 + k → J q = I q) → (∀ j, j < i → J (87 + k) j = u j) → Go L (d + 2) k_X6_parseNumbers 2 [some (vR 83), some (vI k), some (vI w), some (vI i), o4, o5] [] (zup2 J 83 2 p) (fun r M => ∃ J : zI, r = some (vI (if (pnF tx tl m i p u).1 = true then 1 else 0)) ∧ M = zup2 J 83 2 ((pnF tx tl m i p u).2.1 : Nat) ∧ (∀ q, q ≠ 87 + k → J q = I q) ∧ ((pnF tx tl m i p u).1 = true → ∀ j, j < w → J (87 + k) j = (pnF tx tl m i p u).2.2 j)) := by
    intro m
    induction m with
    | zero =>
      intro i p u J o4 o5 hi hp hJ hu
      refine g_l 3 rfl rfl ?_
      refine g_l 4 rfl rfl ?_
      refine g_ic_ge rfl (by omega) (by omega) (fun h => ?_) (fun h => ?_)
      · refine g_p 102 rfl rfl ?_
        exact g_retb rfl rfl (Or.inr rfl) ⟨J, rfl, rfl, hJ, fun _ j hj => hu j (by omega)⟩
      · exact absurd h (by omega)
    | succ m ih =>
      intro i p u J o4 o5 hi hp hJ hu
      have hTJ : TX J tx tl := hT.fr (by rw [hJ 83 (by omega)]) (hJ 84 (by omega))
      have hsk := sk_rng (tx := tx) hp
      obtain ⟨t1, t2, t3⟩ := id hTJ
      refine g_l 3 rfl rfl ?_
      refine g_l 4 rfl rfl ?_
      refine g_ic_ge rfl (by omega) (by omega) (fun h => ?_) (fun h => ?_)
      · exact absurd h (by omega)
      · refine g_l 8 rfl rfl ?_
        refine g_callE rfl (c_skip hTJ hp) ?_ (hr := rcv83 rfl)
        generalize hs : sk tx tl p = s at hsk
        refine g_l 12 rfl rfl ?_
        refine g_fi rfl rfl ⟨⟨by decide, by omega, by decide⟩, by decide⟩ ?_
        refine g_l 17 rfl rfl ?_
        refine g_p 18 rfl rfl ?_
        refine g_l 20 rfl rfl ?_
        rw [zup2_at]
        have tail : ∀ (q : Nat) (x : Int), nmF tx tl 6 s 0 = (q, x) → s ≤ q → q ≤ tl → Go L (d + 2) k_X6_parseNumbers 67 [some (vR 83), some (vI k), some (vI w), some (vI i), some (vI s), some (vI x)] [] (zup2 J 83 2 q) (fun r M => ∃ J : zI, r = some (vI (if (pnF tx tl (m + 1) i p u).1 = true then 1 else 0)) ∧ M = zup2 J 83 2 ((pnF tx tl (m + 1) i p u).2.1 : Nat) ∧ (∀ q, q ≠ 87 + k → J q = I q) ∧ ((pnF tx tl (m + 1) i p u).1 = true → ∀ j, j < w → J (87 + k) j = (pnF tx tl (m + 1) i p u).2.2 j)) := by
          intro q x hq h1 h2
          have bad : (q = s ∨ isd tx tl q) → Go L (d + 2) k_X6_parseNumbers 83 [some (vR 83), some (vI k), some (vI w), some (vI i), some (vI s), some (vI x)] [] (zup2 J 83 2 q) (fun r M => ∃ J : zI, r = some (vI (if (pnF tx tl (m + 1) i p u).1 = true then 1 else 0)) ∧ M = zup2 J 83 2 ((pnF tx tl (m + 1) i p u).2.1 : Nat) ∧ (∀ q, q ≠ 87 + k → J q = I q) ∧ ((pnF tx tl (m + 1) i p u).1 = true → ∀ j, j < w → J (87 + k) j = (pnF tx tl (m + 1) i p u).2.2 j)) := fun hb => by
            refine g_p 84 rfl rfl ?_
            have e : pnF tx tl (m + 1) i p u = (false, q, u) := by
              rw [pnF, hs, hq, if_pos hb]
            rw [e]
            exact g_retb rfl rfl (Or.inl rfl) ⟨J, rfl, rfl, hJ, fun z => absurd z Bool.false_ne_true⟩
          refine g_l 68 rfl rfl ?_
          refine g_fi rfl rfl ⟨⟨by decide, by omega, by decide⟩, by decide⟩ ?_
          refine g_l 73 rfl rfl ?_
          rw [zup2_at]
          refine g_ic_eq rfl (by omega) (by omega) (fun g1 => ?_) (fun g1 => ?_)
          · exact bad (Or.inl (by omega))
          · refine g_l 77 rfl rfl ?_
            refine g_callE rfl (c_isDigit hTJ h2) ?_ (hr := rcv83 rfl)
            have hbr := b2i_r (isd tx tl q)
            refine g_if_eq rfl (by omega) (fun g2 => ?_) (fun g2 => ?_)
            · have g2 := b2i_0 g2
              refine g_l 86 rfl rfl ?_
              refine g_fr rfl rfl ⟨⟨by decide, by omega, by decide⟩, by decide⟩ rfl ?_
              refine g_l 90 rfl rfl ?_
              refine g_aa (c9 := 103) (n := 50) k rfl rfl ⟨Or.inl rfl, by omega⟩ rfl hk (R86 k hk) ?_
              refine g_l 92 rfl rfl ?_
              refine g_l 94 rfl rfl ?_
              refine g_ias i rfl (S87 hk) (by omega) rfl (by omega) ?_
              refine g_l 98 rfl rfl ?_
              refine g_goto rfl ?_
              have e : pnF tx tl (m + 1) i p u = pnF tx tl m (i + 1) q (zup u i x) := by
                rw [pnF, hs, hq]
                exact if_neg (fun z => Or.elim z (fun (z : q = s) => g1 (by rw [z])) g2)
              rw [zcm (by omega), e]
              refine ih (i + 1) q _ _ _ _ (by omega) h2 (fun q2 hq2 => by rw [zup2_ne hq2]; exact hJ q2 hq2) (fun j hj => ?_)
              rw [zup2_fn]
              unfold zup
              by_cases hji : j = i
              · rw [if_pos hji, if_pos hji]
              · rw [if_neg hji, if_neg hji]
                exact hu j (by omega)
            · exact bad (Or.inr (b2i_1 g2))
        have loop : ∀ (f q : Nat) (x : Int), nmF tx tl f q x = nmF tx tl 6 s 0 → q + f = s + 6 → s ≤ q → q ≤ tl → Go L (d + 2) k_X6_parseNumbers 20 [some (vR 83), some (vI k), some (vI w), some (vI i), some (vI s), some (vI x)] [] (zup2 J 83 2 q) (fun r M => ∃ J : zI, r = some (vI (if (pnF tx tl (m + 1) i p u).1 = true then 1 else 0)) ∧ M = zup2 J 83 2 ((pnF tx tl (m + 1) i p u).2.1 : Nat) ∧ (∀ q, q ≠ 87 + k → J q = I q) ∧ ((pnF tx tl (m + 1) i p u).1 = true → ∀ j, j < w → J (87 + k) j = (pnF tx tl (m + 1) i p u).2.2 j)) := by
          intro f
          induction f with
          | zero =>
            intro q x hq hf h1 h2
            have hbr := b2i_r (isd tx tl q)
            refine g_l 21 rfl rfl ?_
            refine g_callE rfl (c_isDigit hTJ h2) ?_ (hr := rcv83 rfl)
            refine g_if_eq rfl (by omega) (fun g1 => ?_) (fun g1 => ?_)
            · exact tail q x hq.symm h1 h2
            · refine g_l 28 rfl rfl ?_
              refine g_fi rfl rfl ⟨⟨by decide, by omega, by decide⟩, by decide⟩ ?_
              refine g_l 33 rfl rfl ?_
              refine g_p 35 rfl rfl ?_
              refine g_p 36 rfl rfl ?_
              rw [zup2_at]
              refine g_ic_ge rfl (by omega) (by omega) (fun g2 => ?_) (fun g2 => ?_)
              · exact tail q x hq.symm h1 h2
              · exact absurd g2 (by omega)
          | succ f ihf =>
            intro q x hq hf h1 h2
            have hbr := b2i_r (isd tx tl q)
            refine g_l 21 rfl rfl ?_
            refine g_callE rfl (c_isDigit hTJ h2) ?_ (hr := rcv83 rfl)
            refine g_if_eq rfl (by omega) (fun g1 => ?_) (fun g1 => ?_)
            · have g1 := b2i_0 g1
              rw [nmF, if_neg g1] at hq
              exact tail q x hq.symm h1 h2
            · have g1 := b2i_1 g1
              have hlt := isd_lt g1
              refine g_l 28 rfl rfl ?_
              refine g_fi rfl rfl ⟨⟨by decide, by omega, by decide⟩, by decide⟩ ?_
              refine g_l 33 rfl rfl ?_
              refine g_p 35 rfl rfl ?_
              refine g_p 36 rfl rfl ?_
              rw [zup2_at]
              refine g_ic_ge rfl (by omega) (by omega) (fun g2 => ?_) (fun g2 => ?_)
              · exact absurd g2 (by omega)
              · refine g_p 41 rfl rfl ?_
                refine g_l 43 rfl rfl ?_
                refine g_p 44 rfl rfl ?_
                refine g_l 45 rfl rfl ?_
                refine g_callE rfl (c_byteHere hTJ h2) ?_ (hr := rcv83 rfl)
                refine g_p 49 rfl rfl ?_
                refine g_p 51 rfl rfl ?_
                refine g_p 52 rfl rfl ?_
                refine g_l 54 rfl rfl ?_
                refine g_l 55 rfl rfl ?_
                refine g_p 56 rfl rfl ?_
                refine g_fi rfl rfl ⟨⟨by decide, by omega, by decide⟩, by decide⟩ ?_
                refine g_p 60 rfl rfl ?_
                refine g_p 61 rfl rfl ?_
                refine g_wi rfl rfl ⟨⟨by decide, by omega, by decide⟩, by decide⟩ ?_
                refine g_goto rfl ?_
                rw [zup2_at, zsq]
                rw [nmF, if_pos g1] at hq
                exact ihf (q + 1) _ hq (by omega) (by omega) (by omega)
        exact loop 6 s 0 rfl rfl (Nat.le_refl _) hsk.2
  show Go L (d + 2) k_X6_parseNumbers 0 [some (vR 83), some (vI k), some (vI w), none, none, none] [] _ _
  refine g_p 1 rfl rfl ?_
  refine g_l 2 rfl rfl ?_
  exact key w 0 p u0 I none none (by omega) hp (fun _ _ => rfl) (fun j hj => absurd hj (by omega))
theorem c_parseCells {k p : Nat} (hT : TX I tx tl) (hk : k < 50) (hp : p ≤ tl) : Ct L (d + 2) k_X6_parseCells [vR 83, vI k] (zup2 I 83 2 p) (fun r M => ∃ J : zI, r = some (vI (if (pcF tx tl 16 0 p 0).1 = true then 1 else 0)) ∧ M = zup2 J 83 2 ((pcF tx tl 16 0 p 0).2.1 : Nat) ∧ (∀ q, q ≠ 87 + k → J q = I q) ∧ ((pcF tx tl 16 0 p 0).1 = true → J (87 + k) 0 = (pcF tx tl 16 0 p 0).2.2)) := by
  obtain ⟨t1, t2, t3⟩ := id hT
  have key : ∀ (m i p : Nat) (x : Int) (o4 : Option zV), i + m = 16 → p ≤ tl → Go L (d + 2) k_X6_parseCells 4 [some (vR 83), some (vI k), some (vI x), some (vI i), o4] [] (zup2 I 83 2 p) (fun r M => ∃ J : zI, r = some (vI (if (pcF tx tl m i p x).1 = true then 1 else 0)) ∧ M = zup2 J 83 2 ((pcF tx tl m i p x).2.1 : Nat) ∧ (∀ q, q ≠ 87 + k → J q = I q) ∧ ((pcF tx tl m i p x).1 = true → J (87 + k) 0 = (pcF tx tl m i p x).2.2)) := by
    intro m
    induction m with
    | zero =>
      intro i p x o4 hi hp
      refine g_l 5 rfl rfl ?_
      refine g_p 7 rfl rfl ?_
      refine g_ic_ge rfl (by omega) (by omega) (fun h => ?_) (fun h => ?_)
      · refine g_l 60 rfl rfl ?_
        refine g_fr rfl rfl ⟨⟨by decide, by omega, by decide⟩, by decide⟩ rfl ?_
        refine g_l 64 rfl rfl ?_
        refine g_aa (c9 := 103) (n := 50) k rfl rfl ⟨Or.inl rfl, by omega⟩ rfl hk (R86 k hk) ?_
        refine g_p 66 rfl rfl ?_
        refine g_l 67 rfl rfl ?_
        refine g_ias 0 rfl (S87 hk) (by omega) rfl (by omega) ?_
        refine g_p 69 rfl rfl ?_
        exact g_retb rfl rfl (Or.inr rfl) ⟨zup2 I (87 + k) 0 x, rfl, zcm (by omega), fun q hq => zup2_ne hq, fun _ => zup2_at⟩
      · exact absurd h (by omega)
    | succ m ih =>
      intro i p x o4 hi hp
      have hsk := sk_rng (tx := tx) hp
      refine g_l 5 rfl rfl ?_
      refine g_p 7 rfl rfl ?_
      refine g_ic_ge rfl (by omega) (by omega) (fun h => ?_) (fun h => ?_)
      · exact absurd h (by omega)
      · refine g_l 11 rfl rfl ?_
        refine g_callE rfl (c_skip hT hp) ?_ (hr := rcv83 rfl)
        generalize hs : sk tx tl p = s at hsk
        have hbh := bh_rng hT s
        refine g_l 15 rfl rfl ?_
        refine g_callE rfl (c_byteHere hT hsk.2) ?_ (hr := rcv83 rfl)
        refine g_p 20 rfl rfl ?_
        refine g_p 21 rfl rfl ?_
        refine g_l 23 rfl rfl ?_
        refine g_l 25 rfl rfl ?_
        refine g_p 26 rfl rfl ?_
        refine g_callE rfl (c_isWithin (by omega) (by omega)) ?_
        have hbr := b2i_r (0 ≤ bh tx tl s - 48 ∧ bh tx tl s - 48 < 4)
        refine g_if_ne rfl (by omega) (fun g1 => ?_) (fun g1 => ?_)
        · have g1 := b2i_1 g1
          have hlt := bh_lt (tx := tx) (tl := tl) (p := s) (by omega)
          refine g_l 35 rfl rfl ?_
          refine g_l 37 rfl rfl ?_
          refine g_p 38 rfl rfl ?_
          refine g_l 39 rfl rfl ?_
          refine g_p 40 rfl rfl ?_
          refine g_p 41 rfl rfl ?_
          refine g_p 42 rfl rfl ?_
          refine g_l 43 rfl rfl ?_
          refine g_l 44 rfl rfl ?_
          refine g_p 45 rfl rfl ?_
          refine g_fi rfl rfl ⟨⟨by decide, by omega, by decide⟩, by decide⟩ ?_
          refine g_p 49 rfl rfl ?_
          refine g_p 50 rfl rfl ?_
          refine g_wi rfl rfl ⟨⟨by decide, by omega, by decide⟩, by decide⟩ ?_
          refine g_l 56 rfl rfl ?_
          refine g_goto rfl ?_
          rw [zup2_at, zsq, pcF, hs, if_pos g1]
          exact ih (i + 1) (s + 1) _ _ (by omega) (by omega)
        · have g1 := b2i_0 (show b2i (0 ≤ bh tx tl s - 48 ∧ bh tx tl s - 48 < 4) = 0 by omega)
          refine g_p 33 rfl rfl ?_
          rw [pcF, hs, if_neg g1]
          exact g_retb rfl rfl (Or.inl rfl) ⟨I, rfl, rfl, fun _ _ => rfl, fun z => absurd z Bool.false_ne_true⟩
  show Go L (d + 2) k_X6_parseCells 0 [some (vR 83), some (vI k), none, none, none] [] _ _
  refine g_p 1 rfl rfl ?_
  refine g_l 2 rfl rfl ?_
  refine g_p 3 rfl rfl ?_
  refine g_l 4 rfl rfl ?_
  exact key 16 0 p 0 none (by omega) hp
end PA
