/-! the search -/
def Bst (n : Nat) (I : zI) (B : Int × (Nat → Int)) : Prop := I 75 5 = B.1 ∧ (∀ j, j < n → I 80 j = B.2 j) ∧ 0 ≤ B.1 ∧ B.1 ≤ 1000
def PC (n : Nat) (I : zI) (B : Int × (Nat → Int)) : Option zV → zI → Prop := fun r J => r = none ∧ Bst n J B ∧ FrF I J
section FL
variable {L d : Nat}
theorem c_fillFrom {n : Nat} {w tu fr : Int} {f : Nat → Int} : ∀ (r p : Nat) (I : zI) (row : Nat → Int) (cost : Int) (B : Int × (Nat → Int)), p + r = n → FF I n w tu fr f row p → Bst n I B → 0 ≤ cost → cost ≤ 48 * p → Ct L (d + r + 3) k_X0_fillFrom [vR 75, vR 37, vI p, vI cost] I (PC n I (fs f n w tu fr r p row cost B))
  | 0, p, I, row, cost, B, hpr, h, hB, hc0, hc1 => by
    obtain ⟨h1, h2, h3, h4, h5, h6, h7, h8', h9, h10, h11, h12, h13, h14, h15, hfr⟩ := id h
    have hp : p = n := by omega
    subst hp
    show Go L (d + 3) k_X0_fillFrom 0 [some (vR 75), some (vR 37), some (vI p), some (vI cost), none, none, none, none] [] I _
    refine g_l 1 rfl rfl ?_
    refine g_l 2 rfl rfl ?_
    refine g_fr rfl rfl ⟨⟨by decide, by omega, by decide⟩, by decide⟩ rfl ?_
    refine g_callE rfl (c_size IsR77) ?_ (hr := rcv rfl ⟨by decide, by omega, rfl⟩)
    rw [h7]
    refine g_ic_ge rfl (by omega) (by omega) (fun g => ?_) (fun g => ?_)
    · refine g_l 18 rfl rfl ?_
      refine g_l 19 rfl rfl ?_
      refine g_wi rfl rfl ⟨⟨by decide, by omega, by decide⟩, by decide⟩ ?_
      refine g_l 23 rfl rfl ?_
      refine g_fr rfl rfl ⟨⟨by decide, by omega, by decide⟩, by decide⟩ rfl ?_
      refine g_l 27 rfl rfl ?_
      refine g_fr rfl rfl ⟨⟨by decide, by omega, by decide⟩, by decide⟩ rfl ?_
      refine g_callE rfl (c_rcopy IsR79 IsR77) ?_ (hr := rcv (n := 3) (c := 3) rfl ⟨by decide, by omega, rfl⟩)
      refine g_ret rfl rfl ⟨rfl, ⟨?_, fun j hj => ?_, ?_, ?_⟩, fun q q1 q2 q3 => ?_, fun j hj => ?_⟩
      · show cpN _ _ _ _ 75 5 = cost
        unfold cpN
        rw [if_neg (by omega), zup2_ne (by omega), zup2_ne (by omega), zup2_at]
      · show cpN _ _ _ _ 80 j = row j
        unfold cpN
        rw [if_pos rfl, if_pos (by omega), zup2_ne (by omega), zup2_ne (by omega), zup2_ne (by omega), h8' j (by omega)]
        unfold rowc
        rw [if_pos hj]
      · show 0 ≤ cost
        exact hc0
      · show cost ≤ 1000
        omega
      · unfold cpN
        rw [if_neg q3, zup2_ne q2, zup2_ne q2, zup2_ne q1]
      · unfold cpN
        rw [if_neg (by omega), zup2_ne (by omega), zup2_ne (by omega), zup2_an hj]
    · exact absurd g (by omega)
  | r + 1, p, I, row, cost, B, hpr, h, hB, hc0, hc1 => by
    have IH := c_fillFrom (n := n) (w := w) (tu := tu) (fr := fr) (f := f) r (p + 1)
    have hn8 := h.1
    have hpn : p < n := by omega
    generalize hok : okS f n w tu fr row p = ok
    generalize hadd : (fun v : Nat => adC f (rowc row p) w n p v) = add
    generalize hch : (fun (v : Nat) (c : Int) (B : Int × (Nat → Int)) => fs f n w tu fr r (p + 1) (zup row p v) c B) = child
    have inner : ∀ (m k : Nat), k + 1 + m = n → (∀ (B1 : Int × (Nat → Int)) (I1 : zI) (o5 o6 o7 : Option zV), FrF I I1 → Bst n I1 B1 → Go L (d + r + 3 + 1) k_X0_fillFrom 37 [some (vR 75), some (vR 37), some (vI p), some (vI cost), some (vI ((k + 1 : Nat) : Int)), o5, o6, o7] [] I1 (PC n I (fsV ok add cost child (4 * m) (4 * (k + 1)) B1))) → ∀ (mm t : Nat) (B1 : Int × (Nat → Int)) (I1 : zI) (o6 o7 : Option zV), t + mm = 4 → FrF I I1 → Bst n I1 B1 → Go L (d + r + 3 + 1) k_X0_fillFrom 52 [some (vR 75), some (vR 37), some (vI p), some (vI cost), some (vI k), some (vI t), o6, o7] [] I1 (PC n I (fsV ok add cost child (4 * m + mm) (4 * k + t) B1)) := by
      intro m k hkm outer mm
      induction mm with
      | zero =>
        intro t B1 I1 o6 o7 ht hF hB1
        obtain ⟨g1, g2, g3, g4, g5, g6, g7, g8', g9, g10, g11, g12, g13, g14, g15, gfr⟩ := h.fr hF
        refine g_l 54 rfl rfl ?_
        refine g_l 55 rfl rfl ?_
        refine g_fi rfl rfl ⟨⟨by decide, by omega, by decide⟩, by decide⟩ ?_
        rw [g10]
        refine g_ic_ge rfl (by omega) (by omega) (fun q => ?_) (fun q => ?_)
        · refine g_l 178 rfl rfl ?_
          refine g_goto rfl ?_
          have ht : t = 4 := by omega
          subst ht
          exact outer _ _ _ _ _ hF hB1
        · exact absurd q (by split <;> omega)
      | succ mm ih =>
        intro t B1 I1 o6 o7 ht hF hB1
        have hFF := h.fr hF
        obtain ⟨g1, g2, g3, g4, g5, g6, g7, g8', g9, g10, g11, g12, g13, g14, g15, gfr⟩ := id hFF
        obtain ⟨hro, hr8⟩ := hFF.ro
        have leave : ∀ (o6 o7 : Option zV), (∀ i, i < mm + 1 → ¬ ok (4 * k + t + i)) → Go L (d + r + 3 + 1) k_X0_fillFrom 175 [some (vR 75), some (vR 37), some (vI p), some (vI cost), some (vI k), some (vI t), o6, o7] [] I1 (PC n I (fsV ok add cost child (4 * m + (mm + 1)) (4 * k + t) B1)) := fun o6 o7 hno => by
          rw [fsV_skip (mm + 1) _ _ _ hno, show 4 * k + t + (mm + 1) = 4 * (k + 1) by omega]
          refine g_l 178 rfl rfl ?_
          refine g_goto rfl ?_
          exact outer _ _ _ _ _ hF hB1
        refine g_l 54 rfl rfl ?_
        refine g_l 55 rfl rfl ?_
        refine g_fi rfl rfl ⟨⟨by decide, by omega, by decide⟩, by decide⟩ ?_
        rw [g10]
        refine g_ic_ge rfl (by omega) (by omega) (fun q => ?_) (fun q => ?_)
        · refine leave _ _ (fun i hi hz => ?_)
          rw [← hok] at hz
          have := hz.1
          by_cases htu : tu = 1
          · rw [if_pos htu] at q
            omega
          · rw [if_neg htu] at q
            omega
        · have hk8 := g9 k (by omega)
          refine g_l 62 rfl rfl ?_
          refine g_fr rfl rfl ⟨⟨by decide, by omega, by decide⟩, by decide⟩ rfl ?_
          refine g_l 67 rfl rfl ?_
          refine g_ba (c9 := 102) (n := 8) k rfl rfl ⟨Or.inr rfl, by omega⟩ rfl (by omega) ?_
          have hr := hk8.1
          refine g_if_ne rfl (by omega) (fun q2 => ?_) (fun q2 => ?_)
          · refine leave _ _ (fun i hi hz => ?_)
            rw [← hok] at hz
            obtain ⟨j, hj, e⟩ := hk8.2.mp (by omega)
            refine hz.2.1 j hj ?_
            rw [e, show (4 * k + t + i) / 4 = k by omega]
          · have hun : ∀ j, j < p → row j / 4 ≠ (k : Int) := fun j hj e => by
              have := hk8.2.mpr ⟨j, hj, e⟩
              omega
            have h0 : I1 76 k = 0 := by omega
            refine g_p 72 rfl rfl ?_
            refine g_l 74 rfl rfl ?_
            refine g_p 75 rfl rfl ?_
            refine g_l 77 rfl rfl ?_
            refine g_p 78 rfl rfl ?_
            refine g_l 80 rfl rfl ?_
            refine g_l 81 rfl rfl ?_
            refine g_l 82 rfl rfl ?_
            refine g_l 83 rfl rfl ?_
            refine g_fr rfl rfl ⟨⟨by decide, by omega, by decide⟩, by decide⟩ rfl ?_
            refine g_l 87 rfl rfl ?_
            refine g_l 89 rfl rfl ?_
            have e1 : (4 * (k : Int) + t) = ((4 * k + t : Nat) : Int) := by omega
            rw [e1]
            generalize hv : 4 * k + t = v
            have hv4 : v / 4 = k := by omega
            refine g_callE rfl (c_addedCost (n := n) (f := f) (p := (p : Int)) (v := (v : Int)) (by omega) g4 IsR77 hro hr8 ⟨by omega, by omega⟩ ⟨by omega, by omega⟩ (fun j hj hjp hj1 => ?_)) ?_
            · rw [g8' j (by omega)] at hj1 ⊢
              unfold rowc at hj1 ⊢
              split at hj1
              · rename_i hjp
                rw [if_pos hjp]
                have := g14 j hjp
                have := hun j hjp
                exact ⟨by omega, by omega⟩
              · exact absurd rfl hj1
            have e2 : adC f (I1 78) (I1 77 0) (I1 77 0 * I1 77 1) p v = add v := by
              rw [g7, g5.1, ← hadd]
              have hwn : (n : Int) % w = 0 := by rw [← g7, g5.1]; exact w_dvd
              exact adF_eq g5.2.1 ⟨by omega, by omega⟩ hwn (by omega) (fun j hj => g8' j hj) 4 0
            have e3 := adC_rng f (I1 78) (I1 77 0) (I1 77 0 * I1 77 1) p v
            show Go L _ _ _ _ (vI (adC f (I1 78) (I1 77 0) (I1 77 0 * I1 77 1) p v) :: _) _ _
            rw [e2] at e3 ⊢
            have skip : ∀ (o6 o7 : Option zV), ¬ (ok v ∧ cost + add v < B1.1) → Go L (d + r + 3 + 1) k_X0_fillFrom 169 [some (vR 75), some (vR 37), some (vI p), some (vI cost), some (vI k), some (vI t), o6, o7] [] I1 (PC n I (fsV ok add cost child (4 * m + (mm + 1)) v B1)) := fun o6 o7 hno => by
              refine g_l 172 rfl rfl ?_
              refine g_goto rfl ?_
              have hz := ih (t + 1) B1 I1 o6 o7 (by omega) hF hB1
              rw [← Nat.add_assoc, fsV, if_neg hno]
              rw [show 4 * k + (t + 1) = v + 1 by omega] at hz
              exact hz
            obtain ⟨b1, b2, b3, b4⟩ := id hB1
            refine g_p 93 rfl rfl ?_
            refine g_l 95 rfl rfl ?_
            refine g_l 97 rfl rfl ?_
            refine g_l 98 rfl rfl ?_
            refine g_fi rfl rfl ⟨⟨by decide, by omega, by decide⟩, by decide⟩ ?_
            rw [b1]
            refine g_ic_ge rfl (by omega) (by omega) (fun q3 => ?_) (fun q3 => ?_)
            · exact skip _ _ (fun z => absurd z.2 (by omega))
            · have deep : ok v → ∀ (o6 : Option zV), o6 = some (vI (v : Int)) → Go L (d + r + 3 + 1) k_X0_fillFrom 122 [some (vR 75), some (vR 37), some (vI p), some (vI cost), some (vI k), some (vI t), o6, some (vI (cost + add v))] [] I1 (PC n I (fsV ok add cost child (4 * m + (mm + 1)) v B1)) := fun hokv o6 ho6 => by
                subst ho6
                refine g_l 123 rfl rfl ?_
                refine g_fr rfl rfl ⟨⟨by decide, by omega, by decide⟩, by decide⟩ rfl ?_
                refine g_l 128 rfl rfl ?_
                refine g_p 129 rfl rfl ?_
                refine g_bas (c9 := 102) (n := 8) k rfl rfl (Or.inr ⟨rfl, Or.inr rfl⟩) (by omega) rfl (by omega) ?_
                refine g_l 131 rfl rfl ?_
                refine g_fr rfl rfl ⟨⟨by decide, by omega, by decide⟩, by decide⟩ rfl ?_
                refine g_fr rfl rfl ⟨⟨by decide, by omega, by decide⟩, by decide⟩ rfl ?_
                refine g_l 138 rfl rfl ?_
                refine g_l 140 rfl rfl ?_
                refine g_ias p rfl rfl (by omega) rfl (by omega) ?_
                have hFF2 : FF (zup2 (zup2 I1 76 k 1) 78 p (v : Int)) n w tu fr f (zup row p (v : Int)) (p + 1) := by
                  have hne : ∀ q, q ≠ 76 → q ≠ 78 → zup2 (zup2 I1 76 k 1) 78 p (v : Int) q = I1 q := fun q a b => by rw [zup2_ne b, zup2_ne a]
                  refine ⟨g1, by rw [hne 37 (by omega) (by omega)]; exact g2, by rw [hne 39 (by omega) (by omega)]; exact g3, fun x y hx hy hxy => by rw [hne (41 + x) (by omega) (by omega)]; exact g4 x y hx hy hxy, by rw [hne 77 (by omega) (by omega)]; exact g5, by rw [hne 77 (by omega) (by omega)]; exact g6, by rw [hne 77 (by omega) (by omega)]; exact g7, fun j hj => ?_, fun j hj => ?_, by rw [hne 75 (by omega) (by omega)]; exact g10, by rw [hne 75 (by omega) (by omega)]; exact g11, g12, g13, fun j hj => ?_, by omega, gfr⟩
                  · by_cases hjp : j = p
                    · subst hjp
                      rw [zup2_at]
                      unfold rowc zup
                      rw [if_pos (by omega), if_pos rfl]
                    · rw [zup2_an hjp, zup2_ne (by omega), g8' j hj]
                      unfold rowc zup
                      rw [if_neg hjp]
                      by_cases hjq : j < p
                      · rw [if_pos hjq, if_pos (by omega)]
                      · rw [if_neg hjq, if_neg (by omega)]
                  · rw [zup2_ne (by omega)]
                    by_cases hjk : j = k
                    · subst hjk
                      rw [zup2_at]
                      refine ⟨Or.inr rfl, ⟨fun _ => ⟨p, by omega, ?_⟩, fun _ => rfl⟩⟩
                      unfold zup
                      rw [if_pos rfl]
                      omega
                    · rw [zup2_an hjk]
                      refine ⟨(g9 j hj).1, (g9 j hj).2.trans ⟨fun ⟨i, hi, e⟩ => ⟨i, by omega, ?_⟩, fun ⟨i, hi, e⟩ => ⟨i, ?_, ?_⟩⟩⟩
                      · unfold zup
                        rw [if_neg (by omega)]
                        exact e
                      · unfold zup at e
                        split at e
                        · omega
                        · omega
                      · unfold zup at e
                        split at e
                        · omega
                        · exact e
                  · unfold zup
                    split
                    · omega
                    · exact g14 j (by omega)
                have hB2 : Bst n (zup2 (zup2 I1 76 k 1) 78 p (v : Int)) B1 := by
                  refine ⟨?_, ?_, b3, b4⟩
                  · rw [zup2_ne (by omega), zup2_ne (by omega)]
                    exact b1
                  · rw [zup2_ne (by omega), zup2_ne (by omega)]
                    exact b2
                refine g_l 142 rfl rfl ?_
                refine g_l 143 rfl rfl ?_
                refine g_l 144 rfl rfl ?_
                refine g_p 145 rfl rfl ?_
                refine g_p 146 rfl rfl ?_
                refine g_l 148 rfl rfl ?_
                refine g_call rfl (IH _ (zup row p (v : Int)) (cost + add v) B1 (by omega) hFF2 hB2 (by omega) (by omega)) (fun r2 J hJ => ?_)
                obtain ⟨rfl, hJB, hJF⟩ := hJ
                have hJx : fs f n w tu fr r (p + 1) (zup row p (v : Int)) (cost + add v) B1 = child v (cost + add v) B1 := by rw [← hch]
                rw [hJx] at hJB
                refine g_l 152 rfl rfl ?_
                refine g_fr rfl rfl ⟨⟨by decide, by omega, by decide⟩, by decide⟩ rfl ?_
                refine g_fr rfl rfl ⟨⟨by decide, by omega, by decide⟩, by decide⟩ rfl ?_
                refine g_l 159 rfl rfl ?_
                refine g_p 160 rfl rfl ?_
                refine g_ias p rfl rfl (by omega) rfl (by omega) ?_
                refine g_l 162 rfl rfl ?_
                refine g_fr rfl rfl ⟨⟨by decide, by omega, by decide⟩, by decide⟩ rfl ?_
                refine g_l 167 rfl rfl ?_
                refine g_p 168 rfl rfl ?_
                refine g_bas (c9 := 102) (n := 8) k rfl rfl (Or.inr ⟨rfl, Or.inl rfl⟩) (by omega) rfl (by omega) ?_
                have hK : FrF I (zup2 (zup2 J 78 p (-1)) 76 k 0) := by
                  refine hF.tr ⟨fun q a b c => ?_, fun j hj => ?_⟩
                  · by_cases q76 : q = 76
                    · subst q76
                      funext j
                      by_cases hjk : j = k
                      · subst hjk
                        rw [zup2_at, h0]
                      · rw [zup2_an hjk, zup2_ne (by omega), hJF.1 76 (by omega) (by omega) (by omega), zup2_ne (by omega), zup2_an hjk]
                    · by_cases q78 : q = 78
                      · subst q78
                        funext j
                        rw [zup2_ne (by omega)]
                        by_cases hjp : j = p
                        · subst hjp
                          rw [zup2_at, g8' j (by omega)]
                          unfold rowc
                          rw [if_neg (by omega)]
                        · rw [zup2_an hjp, hJF.1 78 (by omega) (by omega) (by omega), zup2_an hjp, zup2_ne (by omega)]
                      · rw [zup2_ne q76, zup2_ne q78, hJF.1 q a b c, zup2_ne q78, zup2_ne q76]
                  · rw [zup2_ne (by omega), zup2_ne (by omega), hJF.2 j hj, zup2_ne (by omega), zup2_ne (by omega)]
                have hKB : Bst n (zup2 (zup2 J 78 p (-1)) 76 k 0) (child v (cost + add v) B1) := by
                  obtain ⟨c1, c2, c3, c4⟩ := hJB
                  refine ⟨?_, ?_, c3, c4⟩
                  · rw [zup2_ne (by omega), zup2_ne (by omega)]
                    exact c1
                  · rw [zup2_ne (by omega), zup2_ne (by omega)]
                    exact c2
                refine g_l 172 rfl rfl ?_
                refine g_goto rfl ?_
                have hz := ih (t + 1) _ _ (some (vI (v : Int))) (some (vI (cost + add v))) (by omega) hK hKB
                rw [← Nat.add_assoc, fsV, if_pos ⟨hokv, by omega⟩]
                rw [show 4 * k + (t + 1) = v + 1 by omega] at hz
                exact hz
              have hok12 : (v % 4 = 0 ∨ tu = 1) ∧ ∀ j, j < p → row j / 4 ≠ ((v / 4 : Nat) : Int) := by
                refine ⟨?_, fun j hj => by rw [hv4]; exact hun j hj⟩
                by_cases htu : tu = 1
                · exact Or.inr htu
                · rw [if_neg htu] at q
                  omega
              refine g_l 105 rfl rfl ?_
              refine g_fi rfl rfl ⟨⟨by decide, by omega, by decide⟩, by decide⟩ ?_
              rw [g11]
              refine g_if_eq rfl (by omega) (fun q4 => ?_) (fun q4 => ?_)
              · refine deep ?_ _ rfl
                rw [← hok]
                exact ⟨hok12.1, hok12.2, fun z => absurd z (by omega)⟩
              · obtain ⟨b, hb, hbi, hev⟩ := c_fitsFrame (L := L) (d := d + r + 1) (v := v) hFF hpn (by omega)
                refine g_l 112 rfl rfl ?_
                refine g_l 113 rfl rfl ?_
                refine g_l 114 rfl rfl ?_
                refine g_l 116 rfl rfl ?_
                refine g_callE rfl hev ?_
                refine g_if_eq rfl (by omega) (fun q5 => ?_) (fun q5 => ?_)
                · refine skip _ _ (fun z => ?_)
                  have z1 := z.1
                  rw [← hok] at z1
                  have := hbi.mpr (z1.2.2 (by omega))
                  omega
                · refine deep ?_ _ rfl
                  rw [← hok]
                  exact ⟨hok12.1, hok12.2, fun _ => hbi.mp (by omega)⟩
    have outer : ∀ (m k : Nat) (B1 : Int × (Nat → Int)) (I1 : zI) (o5 o6 o7 : Option zV), k + m = n → FrF I I1 → Bst n I1 B1 → Go L (d + r + 3 + 1) k_X0_fillFrom 37 [some (vR 75), some (vR 37), some (vI p), some (vI cost), some (vI (k : Int)), o5, o6, o7] [] I1 (PC n I (fsV ok add cost child (4 * m) (4 * k) B1)) := by
      intro m
      induction m with
      | zero =>
        intro k B1 I1 o5 o6 o7 hk hF hB1
        obtain ⟨g1, g2, g3, g4, g5, g6, g7, g8', g9, g10, g11, g12, g13, g14, g15, gfr⟩ := h.fr hF
        refine g_l 39 rfl rfl ?_
        refine g_l 40 rfl rfl ?_
        refine g_fr rfl rfl ⟨⟨by decide, by omega, by decide⟩, by decide⟩ rfl ?_
        refine g_callE rfl (c_size IsR77) ?_ (hr := rcv rfl ⟨by decide, by omega, rfl⟩)
        rw [g7]
        refine g_ic_ge rfl (by omega) (by omega) (fun q => ?_) (fun q => ?_)
        · exact g_ret rfl rfl ⟨rfl, hB1, hF⟩
        · exact absurd q (by omega)
      | succ m ih =>
        intro k B1 I1 o5 o6 o7 hk hF hB1
        obtain ⟨g1, g2, g3, g4, g5, g6, g7, g8', g9, g10, g11, g12, g13, g14, g15, gfr⟩ := h.fr hF
        refine g_l 39 rfl rfl ?_
        refine g_l 40 rfl rfl ?_
        refine g_fr rfl rfl ⟨⟨by decide, by omega, by decide⟩, by decide⟩ rfl ?_
        refine g_callE rfl (c_size IsR77) ?_ (hr := rcv rfl ⟨by decide, by omega, rfl⟩)
        rw [g7]
        refine g_ic_ge rfl (by omega) (by omega) (fun q => ?_) (fun q => ?_)
        · exact absurd q (by omega)
        · refine g_p 50 rfl rfl ?_
          refine g_l 52 rfl rfl ?_
          exact inner m k (by omega) (fun B2 I2 o5 o6 o7 hF2 hB2 => ih (k + 1) B2 I2 o5 o6 o7 (by omega) hF2 hB2) 4 0 B1 I1 _ _ (by omega) hF hB1
    obtain ⟨h1, h2, h3, h4, h5, h6, h7, h8', h9, h10, h11, h12, h13, h14, h15, hfr⟩ := id h
    show Go L (d + r + 3 + 1) k_X0_fillFrom 0 [some (vR 75), some (vR 37), some (vI p), some (vI cost), none, none, none, none] [] I _
    refine g_l 1 rfl rfl ?_
    refine g_l 2 rfl rfl ?_
    refine g_fr rfl rfl ⟨⟨by decide, by omega, by decide⟩, by decide⟩ rfl ?_
    refine g_callE rfl (c_size IsR77) ?_ (hr := rcv rfl ⟨by decide, by omega, rfl⟩)
    rw [h7]
    refine g_ic_ge rfl (by omega) (by omega) (fun g => ?_) (fun g => ?_)
    · exact absurd g (by omega)
    · refine g_l 12 rfl rfl ?_
      refine g_p 14 rfl rfl ?_
      refine g_ic_lt rfl (by omega) (by omega) (fun g2 => ?_) (fun g2 => ?_)
      · refine g_p 35 rfl rfl ?_
        refine g_l 37 rfl rfl ?_
        have hz := outer n 0 B I none none none (by omega) FrF.rf hB
        rw [fs, hok, hadd, hch]
        exact hz
      · exact absurd g2 (by omega)
end FL
