/-! Text: orders -/
section PO
variable {L d : Nat} {I : zI} {tx : Nat → Int} {tl : Nat}
theorem c_parseOrder {k p : Nat} (hT : TX I tx tl) (hk : k < 50) (hp : p ≤ tl) : Ct L (d + 3) k_X6_parseOrder [vR 83, vI k] (zup2 I 83 2 p) (fun r M => ∃ J : zI, r = some (vI (if (poF tx tl p).1 = true then 1 else 0)) ∧ M = zup2 J 83 2 ((poF tx tl p).2.1 : Nat) ∧ (∀ q, q ≠ 85 → q ≠ 87 + k → J q = I q) ∧ (∀ j, j ≠ k → J 85 j = I 85 j) ∧ ((poF tx tl p).1 = true → J 85 k = bh tx tl p ∧ ∀ j, j < wn (bh tx tl p) → J (87 + k) j = (poF tx tl p).2.2 j)) := by
  have hbr := bh_rng hT p
  show Go L (d + 3) k_X6_parseOrder 0 [some (vR 83), some (vI k), none, none, none] [] _ _
  refine g_l 1 rfl rfl ?_
  refine g_callE rfl (c_byteHere hT hp) ?_ (hr := rcv83 rfl)
  refine g_l 5 rfl rfl ?_
  refine g_l 6 rfl rfl ?_
  refine g_callE rfl (c_numbersAfter (by omega)) ?_
  have hw4 : wn (bh tx tl p) ≤ 4 := by
    unfold wn
    split
    · omega
    · split
      · omega
      · split
        · omega
        · split <;> omega
  refine g_l 10 rfl rfl ?_
  refine g_l 11 rfl rfl ?_
  refine g_if_ne rfl (by omega) (fun g => ?_) (fun g => ?_)
  · have hlt := wn_lt (tx := tx) (tl := tl) (p := p) (by omega)
    have hT1 : TX (zup2 I 85 k (bh tx tl p)) tx tl := hT.fr (by rw [zup2_ne (by omega)]) (zup2_ne (by omega))
    have hpb := pbF_rng (tx := tx) hlt
    refine g_l 17 rfl rfl ?_
    refine g_p 18 rfl rfl ?_
    refine g_fi rfl rfl ⟨⟨by decide, by omega, by decide⟩, by decide⟩ ?_
    refine g_p 22 rfl rfl ?_
    refine g_p 23 rfl rfl ?_
    refine g_wi rfl rfl ⟨⟨by decide, by omega, by decide⟩, by decide⟩ ?_
    refine g_l 27 rfl rfl ?_
    refine g_fr rfl rfl ⟨⟨by decide, by omega, by decide⟩, by decide⟩ rfl ?_
    refine g_l 31 rfl rfl ?_
    refine g_l 32 rfl rfl ?_
    rw [zup2_at, zsq]
    refine g_ias k rfl rfl (by omega) rfl (by omega) ?_
    rw [zcm (by omega)]
    have ep : (p : Int) + 1 = ((p + 1 : Nat) : Int) := by omega
    rw [ep]
    have after : ∀ (J : zI) (o4 : Option zV), (∀ q, q ≠ 87 + k → J q = zup2 I 85 k (bh tx tl p) q) → ((pbF tx tl p).1 = true → ∀ j, j < wn (bh tx tl p) → J (87 + k) j = (pbF tx tl p).2.2 j) → Go L (d + 3) k_X6_parseOrder 53 [some (vR 83), some (vI k), some (vI (bh tx tl p)), some (vI (wn (bh tx tl p) : Nat)), o4] [vI (if (pbF tx tl p).1 = true then 1 else 0)] (zup2 J 83 2 ((pbF tx tl p).2.1 : Nat)) (fun r M => ∃ J : zI, r = some (vI (if (poF tx tl p).1 = true then 1 else 0)) ∧ M = zup2 J 83 2 ((poF tx tl p).2.1 : Nat) ∧ (∀ q, q ≠ 85 → q ≠ 87 + k → J q = I q) ∧ (∀ j, j ≠ k → J 85 j = I 85 j) ∧ ((poF tx tl p).1 = true → J 85 k = bh tx tl p ∧ ∀ j, j < wn (bh tx tl p) → J (87 + k) j = (poF tx tl p).2.2 j)) := by
      intro J o4 hJ hv
      have hTJ : TX J tx tl := hT1.fr (by rw [hJ 83 (by omega)]) (hJ 84 (by omega))
      have hf1 : ∀ q, q ≠ 85 → q ≠ 87 + k → J q = I q := fun q q1 q2 => by rw [hJ q q2, zup2_ne q1]
      have hf2 : ∀ j, j ≠ k → J 85 j = I 85 j := fun j hj => by rw [hJ 85 (by omega), zup2_an hj]
      have hf3 : J 85 k = bh tx tl p := by rw [hJ 85 (by omega), zup2_at]
      have hw0 : ¬ wn (bh tx tl p) = 0 := by omega
      generalize hpo : poF tx tl p = po
      unfold poF at hpo
      rw [if_neg hw0] at hpo
      generalize hz : pbF tx tl p = z at hpo hv hpb ⊢
      obtain ⟨zb, zp, zu⟩ := z
      dsimp only at hpo hv hpb ⊢
      cases zb with
      | false =>
        rw [if_neg (by decide)] at hpo
        subst hpo
        refine g_l 55 rfl rfl ?_
        refine g_l 57 rfl rfl ?_
        refine g_if_ne rfl (by omega) (fun h1 => ?_) (fun h1 => ?_)
        · exact absurd rfl h1
        · refine g_p 61 rfl rfl ?_
          exact g_retb rfl rfl (Or.inl rfl) ⟨J, rfl, rfl, hf1, hf2, fun z => absurd z Bool.false_ne_true⟩
      | true =>
        rw [if_pos rfl] at hpo
        have hs := sk_rng (tx := tx) hpb.2
        have hbr2 := bh_rng hTJ (sk tx tl zp)
        refine g_l 55 rfl rfl ?_
        refine g_l 57 rfl rfl ?_
        refine g_if_ne rfl (by omega) (fun h1 => ?_) (fun h1 => ?_)
        · refine g_l 63 rfl rfl ?_
          refine g_callE rfl (c_skip hTJ hpb.2) ?_ (hr := rcv83 rfl)
          refine g_l 67 rfl rfl ?_
          refine g_callE rfl (c_byteHere hTJ hs.2) ?_ (hr := rcv83 rfl)
          refine g_p 72 rfl rfl ?_
          refine g_ic_eq rfl (by omega) (by omega) (fun h2 => ?_) (fun h2 => ?_)
          · rw [if_pos h2] at hpo
            subst hpo
            refine g_l 78 rfl rfl ?_
            refine g_p 79 rfl rfl ?_
            refine g_fi rfl rfl ⟨⟨by decide, by omega, by decide⟩, by decide⟩ ?_
            refine g_p 83 rfl rfl ?_
            refine g_p 84 rfl rfl ?_
            refine g_wi rfl rfl ⟨⟨by decide, by omega, by decide⟩, by decide⟩ ?_
            refine g_p 88 rfl rfl ?_
            rw [zup2_at, zsq]
            exact g_retb rfl rfl (Or.inr rfl) ⟨J, rfl, rfl, hf1, hf2, fun _ => ⟨hf3, hv rfl⟩⟩
          · rw [if_neg h2] at hpo
            subst hpo
            refine g_p 76 rfl rfl ?_
            exact g_retb rfl rfl (Or.inl rfl) ⟨J, rfl, rfl, hf1, hf2, fun z => absurd z Bool.false_ne_true⟩
        · simp at h1
    refine g_l 34 rfl rfl ?_
    refine g_p 36 rfl rfl ?_
    refine g_ic_ne rfl (by omega) (by omega) (fun h1 => ?_) (fun h1 => ?_)
    · refine g_l 48 rfl rfl ?_
      refine g_l 49 rfl rfl ?_
      refine g_l 50 rfl rfl ?_
      refine g_call rfl (c_parseNumbers hT1 hk hw4 (by omega) (fun _ => 0)) (fun r M hM => ?_) (hr := rcv83 rfl)
      obtain ⟨J, rfl, rfl, hJ1, hJ2⟩ := hM
      have e : pbF tx tl p = pnF tx tl (wn (bh tx tl p)) 0 (p + 1) (fun _ => 0) := if_neg h1
      rw [← e] at hJ2 ⊢
      exact after J _ hJ1 hJ2
    · have h1 : bh tx tl p = 112 := by omega
      refine g_l 40 rfl rfl ?_
      refine g_l 41 rfl rfl ?_
      refine g_call rfl (c_parseCells hT1 hk (by omega)) (fun r M hM => ?_) (hr := rcv83 rfl)
      obtain ⟨J, rfl, rfl, hJ1, hJ2⟩ := hM
      have e : pbF tx tl p = ((pcF tx tl 16 0 (p + 1) 0).1, (pcF tx tl 16 0 (p + 1) 0).2.1, fun _ => (pcF tx tl 16 0 (p + 1) 0).2.2) := if_pos h1
      have e1 : (pcF tx tl 16 0 (p + 1) 0).1 = (pbF tx tl p).1 := by rw [e]
      have e2 : (pcF tx tl 16 0 (p + 1) 0).2.1 = (pbF tx tl p).2.1 := by rw [e]
      refine g_goto rfl ?_
      rw [e1, e2]
      rw [e1] at hJ2
      refine after J _ hJ1 (fun z j hj => ?_)
      have hw1 : wn (bh tx tl p) = 1 := by rw [h1]; rfl
      have hj : j = 0 := by omega
      subst hj
      rw [hJ2 z, e]
  · have g : wn (bh tx tl p) = 0 := by omega
    have hpo : poF tx tl p = (false, p, fun _ => 0) := by unfold poF; rw [if_pos g]
    rw [hpo]
    refine g_p 15 rfl rfl ?_
    exact g_retb rfl rfl (Or.inl rfl) ⟨I, rfl, rfl, fun _ _ _ => rfl, fun _ _ => rfl, fun z => absurd z Bool.false_ne_true⟩
/-- the first k orders as they are held -/
def OdAt (J : zI) (tx : Nat → Int) (tl k : Nat) : Prop := ∀ i, i < k → (poF tx tl (osF tx tl i)).1 = true ∧ J (85) i = bh tx tl (osF tx tl i) ∧ ∀ j, j < wn (bh tx tl (osF tx tl i)) → J (87 + i) j = (poF tx tl (osF tx tl i)).2.2 j
theorem c_parseOrders (hT : TX I tx tl) : Ct L (d + 4) k_X6_parseOrders [vR 83] I (fun r M => r = some (vI (if (prF tx tl 50 0).1 = true then -1 else ((prF tx tl 50 0).2 : Nat))) ∧ (∀ q, q ≠ 83 → q ≠ 85 → (q < 87 ∨ 137 ≤ q) → M q = I q) ∧ M 83 1 = I 83 1 ∧ ((prF tx tl 50 0).1 = true → (prF tx tl 50 0).2 ≤ 50 ∧ M 83 3 = ((prF tx tl 50 0).2 : Nat) ∧ OdAt M tx tl (prF tx tl 50 0).2)) := by
  have key : ∀ (m k : Nat) (J : zI), k + m = 50 → (∀ q, q ≠ 83 → q ≠ 85 → (q < 87 ∨ 137 ≤ q) → J q = I q) → J 83 1 = I 83 1 → J 83 3 = k → OdAt J tx tl k → Go L (d + 4) k_X6_parseOrders 16 [some (vR 83), some (vI k)] [] (zup2 J 83 2 (osF tx tl k : Nat)) (fun r M => r = some (vI (if (prF tx tl m k).1 = true then -1 else ((prF tx tl m k).2 : Nat))) ∧ (∀ q, q ≠ 83 → q ≠ 85 → (q < 87 ∨ 137 ≤ q) → M q = I q) ∧ M 83 1 = I 83 1 ∧ ((prF tx tl m k).1 = true → (prF tx tl m k).2 ≤ 50 ∧ M 83 3 = ((prF tx tl m k).2 : Nat) ∧ OdAt M tx tl (prF tx tl m k).2)) := by
    intro m
    induction m with
    | zero =>
      intro k J hk hJ h1 h3 hO
      refine g_l 17 rfl rfl ?_
      refine g_p 19 rfl rfl ?_
      refine g_ic_ge rfl (by omega) (by omega) (fun g => ?_) (fun g => ?_)
      · refine g_l 69 rfl rfl ?_
        refine g_fi rfl rfl ⟨⟨by decide, by omega, by decide⟩, by decide⟩ ?_
        rw [zup2_at]
        refine g_ret rfl rfl ⟨rfl, fun q q1 q2 q3 => ?_, ?_, fun z => absurd z Bool.false_ne_true⟩
        · rw [zup2_ne q1]
          exact hJ q q1 q2 q3
        · rw [zup2_an (by omega)]
          exact h1
      · exact absurd g (by omega)
    | succ m ih =>
      intro k J hk hJ h1 h3 hO
      have hTJ : TX J tx tl := hT.fr h1 (hJ 84 (by omega) (by omega) (by omega))
      have hos := osF_le (tx := tx) (tl := tl) k
      have hpo := poF_rng (tx := tx) hos
      obtain ⟨t1, t2, t3⟩ := id hTJ
      refine g_l 17 rfl rfl ?_
      refine g_p 19 rfl rfl ?_
      refine g_ic_ge rfl (by omega) (by omega) (fun g => ?_) (fun g => ?_)
      · exact absurd g (by omega)
      · refine g_l 23 rfl rfl ?_
        refine g_l 24 rfl rfl ?_
        refine g_call rfl (c_parseOrder hTJ (by omega) hos) (fun r M hM => ?_) (hr := rcv83 rfl)
        obtain ⟨K, rfl, rfl, k1, k2, k3⟩ := hM
        have hK : ∀ q, q ≠ 83 → q ≠ 85 → (q < 87 ∨ 137 ≤ q) → K q = I q := fun q q1 q2 q3 => by rw [k1 q q2 (by omega)]; exact hJ q q1 q2 q3
        have hK83 : K 83 = J 83 := k1 83 (by omega) (by omega)
        by_cases hok : (poF tx tl (osF tx tl k)).1 = true
        · rw [if_pos hok]
          have hTK : TX (zup2 K 83 3 ((k + 1 : Nat) : Int)) tx tl := hTJ.fr (by rw [zup2_an (by omega), hK83]) (by rw [zup2_ne (by omega), k1 84 (by omega) (by omega)])
          refine g_if_ne rfl (by omega) (fun g1 => ?_) (fun g1 => ?_)
          · have hO1 : OdAt (zup2 K 83 3 ((k + 1 : Nat) : Int)) tx tl (k + 1) := by
              intro i hi
              by_cases hik : i = k
              · subst hik
                refine ⟨hok, ?_, fun j hj => ?_⟩
                · rw [zup2_ne (by omega)]
                  exact (k3 hok).1
                · rw [zup2_ne (by omega)]
                  exact (k3 hok).2 j hj
              · obtain ⟨o1, o2, o3⟩ := hO i (by omega)
                refine ⟨o1, ?_, fun j hj => ?_⟩
                · rw [zup2_ne (by omega), k2 i hik]
                  exact o2
                · rw [zup2_ne (by omega), k1 (87 + i) (by omega) (by omega)]
                  exact o3 j hj
            refine g_l 36 rfl rfl ?_
            refine g_p 37 rfl rfl ?_
            refine g_fi rfl rfl ⟨⟨by decide, by omega, by decide⟩, by decide⟩ ?_
            refine g_p 41 rfl rfl ?_
            refine g_p 42 rfl rfl ?_
            refine g_wi rfl rfl ⟨⟨by decide, by omega, by decide⟩, by decide⟩ ?_
            rw [zup2_an (by omega), hK83, h3, zcs (by omega), show (k : Int) + 1 = ((k + 1 : Nat) : Int) by omega]
            refine g_l 46 rfl rfl ?_
            refine g_callE rfl (c_skip hTK hpo.2) ?_ (hr := rcv83 rfl)
            refine g_l 50 rfl rfl ?_
            refine g_fi rfl rfl ⟨⟨by decide, by omega, by decide⟩, by decide⟩ ?_
            refine g_l 54 rfl rfl ?_
            refine g_fi rfl rfl ⟨⟨by decide, by omega, by decide⟩, by decide⟩ ?_
            rw [zup2_at, zup2_an (by omega), hTK.1]
            have hos2 : sk tx tl (poF tx tl (osF tx tl k)).2.1 = osF tx tl (k + 1) := rfl
            have hos3 := osF_le (tx := tx) (tl := tl) (k + 1)
            rw [hos2]
            refine g_ic_lt rfl (by omega) (by omega) (fun g2 => ?_) (fun g2 => ?_)
            · refine g_l 65 rfl rfl ?_
              refine g_goto rfl ?_
              have e : prF tx tl (m + 1) k = prF tx tl m (k + 1) := by
                rw [prF, if_pos hok]
                exact if_neg (by omega)
              rw [e]
              refine ih (k + 1) _ (by omega) (fun q q1 q2 q3 => ?_) ?_ zup2_at hO1
              · rw [zup2_ne q1]
                exact hK q q1 q2 q3
              · rw [zup2_an (by omega), hK83]
                exact h1
            · refine g_p 61 rfl rfl ?_
              have e : prF tx tl (m + 1) k = (true, k + 1) := by
                rw [prF, if_pos hok]
                exact if_pos (by omega)
              rw [e]
              refine g_ret rfl rfl ⟨rfl, fun q q1 q2 q3 => ?_, ?_, fun _ => ⟨by show k + 1 ≤ 50; omega, ?_, ?_⟩⟩
              · rw [zup2_ne q1, zup2_ne q1]
                exact hK q q1 q2 q3
              · rw [zup2_an (by omega), zup2_an (by omega), hK83]
                exact h1
              · rw [zup2_an (by omega), zup2_at]
              · intro i hi
                obtain ⟨o1, o2, o3⟩ := hO1 i hi
                refine ⟨o1, ?_, fun j hj => ?_⟩
                · rw [zup2_ne (by omega)]
                  exact o2
                · rw [zup2_ne (by omega)]
                  exact o3 j hj
          · exact absurd g1 (by decide)
        · have e : prF tx tl (m + 1) k = (false, (poF tx tl (osF tx tl k)).2.1) := by
            rw [prF]
            exact if_neg hok
          rw [if_neg hok, e]
          refine g_if_ne rfl (by omega) (fun g1 => ?_) (fun g1 => ?_)
          · exact absurd rfl g1
          · refine g_l 31 rfl rfl ?_
            refine g_fi rfl rfl ⟨⟨by decide, by omega, by decide⟩, by decide⟩ ?_
            rw [zup2_at]
            refine g_ret rfl rfl ⟨rfl, fun q q1 q2 q3 => ?_, ?_, fun z => absurd z Bool.false_ne_true⟩
            · rw [zup2_ne q1]
              exact hK q q1 q2 q3
            · rw [zup2_an (by omega), hK83]
              exact h1
  show Go L (d + 4) k_X6_parseOrders 0 [some (vR 83), none] [] I _
  refine g_l 1 rfl rfl ?_
  refine g_p 2 rfl rfl ?_
  refine g_wi rfl rfl ⟨⟨by decide, by omega, by decide⟩, by decide⟩ ?_
  refine g_l 6 rfl rfl ?_
  refine g_p 7 rfl rfl ?_
  refine g_wi rfl rfl ⟨⟨by decide, by omega, by decide⟩, by decide⟩ ?_
  have hT2 : TX (zup2 I 83 3 0) tx tl := hT.fr (zup2_an (by omega)) (zup2_ne (by omega))
  rw [zcs (by omega)]
  refine g_l 11 rfl rfl ?_
  refine g_callE rfl (c_skip (p := 0) hT2 (Nat.zero_le _)) ?_ (hr := rcv83 rfl)
  refine g_p 15 rfl rfl ?_
  refine g_l 16 rfl rfl ?_
  exact key 50 0 (zup2 I 83 3 0) (by omega) (fun q q1 q2 q3 => zup2_ne q1) (zup2_an (by omega)) zup2_at (fun i hi => absurd hi (by omega))
end PO
