/-! THE LAW: isNext, its loops -/
section NM
variable {L d n : Nat} {I : zI} {v : Nat → Int}
set_option maxRecDepth 16384 in
theorem nx_open {tu : Int} {P C p k : Nat} {J : zI} {n1 : Nat} {o11 o12 o13 o14 o15 : Option zV} {Q : Option zV → zI → Prop} (ho : OKv v) (hp : (p : Int) < fS v) (hJ : Lst J v n1)
    (rest : ∀ (M : zI) (b : Int), (b = 0 ∨ b = 1) → (b = 1 → lyg v = 0 ∨ opL v p) → Lst M v n1 → FrC J M → Go L (d + 7) k_L_isNext 307 ([some (vR 2), some (vI tu), some (vI (P : Int)), some (vI (C : Int)), some (vI (adA v P C)), some (vI (csA v)), some (vI (fS v)), some (vI (lyg v)), some (vI 1), some (vI p), some (vI k), some (vI (v 9)), o12, o13, o14, o15]) [vI b] M Q) : Go L (d + 7) k_L_isNext 207 ([some (vR 2), some (vI tu), some (vI (P : Int)), some (vI (C : Int)), some (vI (adA v P C)), some (vI (csA v)), some (vI (fS v)), some (vI (lyg v)), some (vI 1), some (vI p), some (vI k), o11, o12, o13, o14, o15]) [] J Q := by
  have hf := fS_rng ho
  have hw := ho.2.2.1.1
  have hN := ho.1
  have hl := ly_rng ho
  have hb : ∀ j, j < 8 → -1 ≤ v (11 + j) ∧ v (11 + j) ≤ 31 := fun j hj => by
    have := ho.2.2.2.1 j hj
    omega
  have hm : 0 ≤ (p : Int) % v 9 ∧ (p : Int) % v 9 < v 9 := ⟨Int.emod_nonneg _ (by omega), Int.emod_lt_of_pos _ (by omega)⟩
  have hp0 : 0 < (p : Int) % v 9 → 1 ≤ p := fun h => by
    refine Nat.pos_of_ne_zero (fun z => ?_)
    rw [z, Int.natCast_zero, Int.zero_emod] at h
    omega
  have hp1 : (p : Int) % v 9 < v 9 - 1 → (p : Int) + 1 < fS v := fun h => by
    have hq := nb_rng (w := v 9) (n := fS v) (p := (p : Int)) (q := 1) hf.2.2 (by omega) hf.2.1
    have e1 : nb (v 9) (fS v) p 1 = if (p : Int) % v 9 < v 9 - 1 then (p : Int) + 1 else -1 := rfl
    rw [e1, if_pos h] at hq
    omega
  have yes : ∀ M : zI, (lyg v = 0 ∨ opL v p) → Lst M v n1 → FrC J M → Go L (d + 7) k_L_isNext 302 ([some (vR 2), some (vI tu), some (vI (P : Int)), some (vI (C : Int)), some (vI (adA v P C)), some (vI (csA v)), some (vI (fS v)), some (vI (lyg v)), some (vI 1), some (vI p), some (vI k), some (vI (v 9)), o12, o13, o14, o15]) [] M Q := fun M h hM hF => by
    refine g_p 303 rfl rfl ?_
    refine g_goto rfl ?_
    exact rest M 1 (Or.inr rfl) (fun _ => h) hM hF
  have no : ∀ M : zI, Lst M v n1 → FrC J M → Go L (d + 7) k_L_isNext 306 ([some (vR 2), some (vI tu), some (vI (P : Int)), some (vI (C : Int)), some (vI (adA v P C)), some (vI (csA v)), some (vI (fS v)), some (vI (lyg v)), some (vI 1), some (vI p), some (vI k), some (vI (v 9)), o12, o13, o14, o15]) [] M Q := fun M hM hF => by
    refine g_p 307 rfl rfl ?_
    exact rest M 0 (Or.inl rfl) (fun z => absurd z (by decide)) hM hF
  have s4 : ∀ M : zI, Lst M v n1 → FrC J M → Go L (d + 7) k_L_isNext 280 ([some (vR 2), some (vI tu), some (vI (P : Int)), some (vI (C : Int)), some (vI (adA v P C)), some (vI (csA v)), some (vI (fS v)), some (vI (lyg v)), some (vI 1), some (vI p), some (vI k), some (vI (v 9)), o12, o13, o14, o15]) [] M Q := fun M hM hF => by
    refine g_l 282 rfl rfl ?_
    refine g_l 284 rfl rfl ?_
    refine g_p 285 rfl rfl ?_
    refine g_l 287 rfl rfl ?_
    refine g_ic_ge rfl (by omega) (by omega) (fun g1 => ?_) (fun g1 => ?_)
    · exact no M hM hF
    · refine g_l 291 rfl rfl ?_
      refine g_l 293 rfl rfl ?_
      refine g_l 295 rfl rfl ?_
      refine g_p 296 rfl rfl ?_
      refine g_call rfl (q_at ((p : Int) + v 9).toNat hM (by omega) (by omega)) (fun r M1 hM1 => ?_) (hr := rcv2 rfl)
      obtain ⟨rfl, hM1, f1⟩ := hM1
      have := hb ((p : Int) + v 9).toNat (by omega)
      refine g_if_lt rfl (by omega) (fun g2 => ?_) (fun g2 => ?_)
      · exact no M1 hM1 (hF.tr f1)
      · exact yes M1 (Or.inr (Or.inr (Or.inr (Or.inr ⟨by omega, by omega⟩)))) hM1 (hF.tr f1)
  have s3 : ∀ M : zI, Lst M v n1 → FrC J M → Go L (d + 7) k_L_isNext 261 ([some (vR 2), some (vI tu), some (vI (P : Int)), some (vI (C : Int)), some (vI (adA v P C)), some (vI (csA v)), some (vI (fS v)), some (vI (lyg v)), some (vI 1), some (vI p), some (vI k), some (vI (v 9)), o12, o13, o14, o15]) [] M Q := fun M hM hF => by
    refine g_l 263 rfl rfl ?_
    refine g_l 265 rfl rfl ?_
    refine g_ic_lt rfl (by omega) (by omega) (fun g1 => ?_) (fun g1 => ?_)
    · exact s4 M hM hF
    · refine g_l 269 rfl rfl ?_
      refine g_l 271 rfl rfl ?_
      refine g_l 273 rfl rfl ?_
      refine g_p 274 rfl rfl ?_
      refine g_call rfl (q_at ((p : Int) - v 9).toNat hM (by omega) (by omega)) (fun r M1 hM1 => ?_) (hr := rcv2 rfl)
      obtain ⟨rfl, hM1, f1⟩ := hM1
      have := hb ((p : Int) - v 9).toNat (by omega)
      refine g_if_ge rfl (by omega) (fun g2 => ?_) (fun g2 => ?_)
      · exact yes M1 (Or.inr (Or.inr (Or.inr (Or.inl ⟨by omega, by omega⟩)))) hM1 (hF.tr f1)
      · exact s4 M1 hM1 (hF.tr f1)
  have s2 : ∀ M : zI, Lst M v n1 → FrC J M → Go L (d + 7) k_L_isNext 238 ([some (vR 2), some (vI tu), some (vI (P : Int)), some (vI (C : Int)), some (vI (adA v P C)), some (vI (csA v)), some (vI (fS v)), some (vI (lyg v)), some (vI 1), some (vI p), some (vI k), some (vI (v 9)), o12, o13, o14, o15]) [] M Q := fun M hM hF => by
    refine g_l 240 rfl rfl ?_
    refine g_l 242 rfl rfl ?_
    refine g_rem 243 rfl (by omega) (by omega) ?_
    refine g_l 245 rfl rfl ?_
    refine g_p 246 rfl rfl ?_
    refine g_p 247 rfl rfl ?_
    refine g_ic_ge rfl (by omega) (by omega) (fun g1 => ?_) (fun g1 => ?_)
    · exact s3 M hM hF
    · have h1 := hp1 (by omega)
      refine g_l 251 rfl rfl ?_
      refine g_l 253 rfl rfl ?_
      refine g_p 254 rfl rfl ?_
      refine g_p 255 rfl rfl ?_
      refine g_call rfl (q_at (p + 1) hM (by omega) (by omega)) (fun r M1 hM1 => ?_) (hr := rcv2 rfl)
      obtain ⟨rfl, hM1, f1⟩ := hM1
      have := hb (p + 1) (by omega)
      refine g_if_ge rfl (by omega) (fun g2 => ?_) (fun g2 => ?_)
      · exact yes M1 (Or.inr (Or.inr (Or.inl ⟨by omega, g2⟩))) hM1 (hF.tr f1)
      · exact s3 M1 hM1 (hF.tr f1)
  refine g_l 208 rfl rfl ?_
  refine g_p 209 rfl rfl ?_
  refine g_call rfl (q_told (v 9) hJ (by omega)) (fun r M hM => ?_) (hr := rcv2 rfl)
  obtain ⟨rfl, hM, f0⟩ := hM
  refine g_l 214 rfl rfl ?_
  refine Go.lv (rfl : _ = [_, _, _, _, _, _, _, _, _, _, _, _, _, _, _, _]) ?_
  refine g_l 216 rfl rfl ?_
  refine g_if_eq rfl (by omega) (fun g1 => ?_) (fun g1 => ?_)
  · exact yes M (Or.inl g1) hM f0
  · refine g_l 221 rfl rfl ?_
    refine g_l 223 rfl rfl ?_
    refine g_rem 224 rfl (by omega) (by omega) ?_
    refine g_if_le rfl (by omega) (fun g2 => ?_) (fun g2 => ?_)
    · exact s2 M hM f0
    · have h1 := hp0 (by omega)
      refine g_l 228 rfl rfl ?_
      refine g_l 230 rfl rfl ?_
      refine g_p 231 rfl rfl ?_
      refine g_p 232 rfl rfl ?_
      refine g_call rfl (q_at (p - 1) hM (by omega) (by omega)) (fun r M1 hM1 => ?_) (hr := rcv2 rfl)
      obtain ⟨rfl, hM1, f1⟩ := hM1
      have := hb (p - 1) (by omega)
      refine g_if_ge rfl (by omega) (fun g3 => ?_) (fun g3 => ?_)
      · exact yes M1 (Or.inr (Or.inl ⟨by omega, g3⟩)) hM1 (f0.tr f1)
      · exact s2 M1 hM1 (f0.tr f1)
set_option maxRecDepth 16384 in
theorem nx_loop {tu : Int} {P C : Nat} (ho : OKv v) (ht : tu = 0 ∨ tu = 1) (hP : (P : Int) < fS v) (hC : C < 4 * fN v) (hg : cgP v P) (ha : alC v tu C) (hmin : ∀ p : Nat, (p : Int) < fS v → cgP v p → ∀ c, c < 4 * fN v → alC v tu c → adA v P C ≤ adA v p c ∧ (p < P ∨ p = P ∧ c < C → adA v P C < adA v p c)) : ∀ (m p : Nat) (J : zI) (n1 : Nat) (o10 o11 o12 o13 o14 o15 : Option zV), ((p + m : Nat) : Int) = fS v → Lst J v n1 → n ≤ n1 → FrC I J → Go L (d + 7) k_L_isNext 161 ([some (vR 2), some (vI tu), some (vI (P : Int)), some (vI (C : Int)), some (vI (adA v P C)), some (vI (csA v)), some (vI (fS v)), some (vI (lyg v)), some (vI 1), some (vI p), o10, o11, o12, o13, o14, o15]) [] J (fun r J => r = some (vI 1) ∧ FrC I J ∧ ∃ (v' : Nat → Int) (n' : Nat), Lst J v' n' ∧ (v' 0 = v 0 ∧ v' 9 = v 9 ∧ v' 10 = v 10) ∧ n ≤ n' ∧ (lyg v < fS v ∧ lyg v < v 0 → lyg v' = lyg v + 1 ∧ (n < n' ∨ n' = 6)) ∧ (¬ (lyg v < fS v ∧ lyg v < v 0) → lyg v' = lyg v)) := by
  have hf := fS_rng ho
  have hN := fN_le ho
  have hb : ∀ j, j < 8 → -1 ≤ v (11 + j) ∧ v (11 + j) ≤ 31 := fun j hj => by
    have := ho.2.2.2.1 j hj
    have := ho.1
    omega
  intro m
  induction m with
  | zero =>
    intro p J n1 o10 o11 o12 o13 o14 o15 hpm hJ hn hF
    refine g_l 163 rfl rfl ?_
    refine g_l 165 rfl rfl ?_
    refine g_ic_ge rfl (by omega) (by omega) (fun g => ?_) (fun g => ?_)
    · exact nx_fin ho hP hC hg ha hJ hn hF
    · exact absurd (show fS v ≤ (p : Int) by omega) g
  | succ m ih =>
    intro p J n1 o10 o11 o12 o13 o14 o15 hpm hJ hn hF
    have hp : (p : Int) < fS v := by omega
    have inner : ∀ (mm k : Nat) (J : zI) (n1 : Nat) (o11 o12 o13 o14 o15 : Option zV), k + mm = fN v → Lst J v n1 → n ≤ n1 → FrC I J → Go L (d + 7) k_L_isNext 176 ([some (vR 2), some (vI tu), some (vI (P : Int)), some (vI (C : Int)), some (vI (adA v P C)), some (vI (csA v)), some (vI (fS v)), some (vI (lyg v)), some (vI 1), some (vI p), some (vI k), o11, o12, o13, o14, o15]) [] J (fun r J => r = some (vI 1) ∧ FrC I J ∧ ∃ (v' : Nat → Int) (n' : Nat), Lst J v' n' ∧ (v' 0 = v 0 ∧ v' 9 = v 9 ∧ v' 10 = v 10) ∧ n ≤ n' ∧ (lyg v < fS v ∧ lyg v < v 0 → lyg v' = lyg v + 1 ∧ (n < n' ∨ n' = 6)) ∧ (¬ (lyg v < fS v ∧ lyg v < v 0) → lyg v' = lyg v)) := by
      intro mm
      induction mm with
      | zero =>
        intro k J n1 o11 o12 o13 o14 o15 hk hJ hn hF
        refine g_l 178 rfl rfl ?_
        refine g_l 179 rfl rfl ?_
        refine g_p 180 rfl rfl ?_
        refine g_call rfl (q_told (v 0) hJ (by omega)) (fun r J1 hJ1 => ?_) (hr := rcv2 rfl)
        obtain ⟨rfl, hJ1, f1⟩ := hJ1
        refine g_ic_ge rfl (by omega) (by omega) (fun g => ?_) (fun g => ?_)
        · refine g_l 463 rfl rfl ?_
          refine Go.lv (rfl : _ = [_, _, _, _, _, _, _, _, _, _, _, _, _, _, _, _]) ?_
          refine g_goto rfl ?_
          exact ih (p + 1) J1 n1 _ _ _ _ _ _ (by omega) hJ1 hn (hF.tr f1)
        · exact absurd (show v 0 ≤ (k : Int) by omega) g
      | succ mm ih2 =>
        intro k J n1 o11 o12 o13 o14 o15 hk hJ hn hF
        have hb11 := hb p (by omega)
        have skip : ∀ (M : zI) (n2 : Nat) (o11 o12 o13 o14 o15 : Option zV), Lst M v n2 → n1 ≤ n2 → FrC J M → Go L (d + 7) k_L_isNext 454 ([some (vR 2), some (vI tu), some (vI (P : Int)), some (vI (C : Int)), some (vI (adA v P C)), some (vI (csA v)), some (vI (fS v)), some (vI (lyg v)), some (vI 1), some (vI p), some (vI k), o11, o12, o13, o14, o15]) [] M (fun r J => r = some (vI 1) ∧ FrC I J ∧ ∃ (v' : Nat → Int) (n' : Nat), Lst J v' n' ∧ (v' 0 = v 0 ∧ v' 9 = v 9 ∧ v' 10 = v 10) ∧ n ≤ n' ∧ (lyg v < fS v ∧ lyg v < v 0 → lyg v' = lyg v + 1 ∧ (n < n' ∨ n' = 6)) ∧ (¬ (lyg v < fS v ∧ lyg v < v 0) → lyg v' = lyg v)) := fun M n2 o11 o12 o13 o14 o15 hM hn2 hFM => by
          refine g_l 457 rfl rfl ?_
          refine Go.lv (rfl : _ = [_, _, _, _, _, _, _, _, _, _, _, _, _, _, _, _]) ?_
          refine g_goto rfl ?_
          exact ih2 (k + 1) M n2 _ _ _ _ _ (by omega) hM (by omega) (hF.tr hFM)
        refine g_l 178 rfl rfl ?_
        refine g_l 179 rfl rfl ?_
        refine g_p 180 rfl rfl ?_
        refine g_call rfl (q_told (v 0) hJ (by omega)) (fun r J1 hJ1 => ?_) (hr := rcv2 rfl)
        obtain ⟨rfl, hJ1, f1⟩ := hJ1
        refine g_ic_ge rfl (by omega) (by omega) (fun g => ?_) (fun g => ?_)
        · exact absurd g (by omega)
        · refine g_l 187 rfl rfl ?_
          refine g_l 189 rfl rfl ?_
          refine g_call rfl (q_at p hJ1 rfl hp) (fun r J2 hJ2 => ?_) (hr := rcv2 rfl)
          obtain ⟨rfl, hJ2, f2⟩ := hJ2
          refine g_p 193 rfl rfl ?_
          refine g_ic_ne rfl (by omega) (by omega) (fun g2 => ?_) (fun g2 => ?_)
          · exact skip J2 n1 _ _ _ _ _ hJ2 (Nat.le_refl _) (f1.tr f2)
          · have hv : v (11 + p) = -1 := by omega
            refine g_l 197 rfl rfl ?_
            refine g_l 199 rfl rfl ?_
            refine g_p 200 rfl rfl ?_
            refine g_call rfl (q_of k hJ2 rfl (by omega) (by omega)) (fun r J3 hJ3 => ?_) (hr := rcv2 rfl)
            obtain ⟨rfl, hJ3, f3⟩ := hJ3
            have e3 : ofA v k 3 = pl (vc v) (fS v) ((k : Nat) : Int) := rfl
            have r3 := pl_rng (c := vc v) (n := fS v) (k := ((k : Nat) : Int)) (by omega)
            rw [e3]
            refine g_p 204 rfl rfl ?_
            refine g_ic_ne rfl (by omega) (by omega) (fun g3 => ?_) (fun g3 => ?_)
            · exact skip J3 n1 _ _ _ _ _ hJ3 (Nat.le_refl _) ((f1.tr f2).tr f3)
            · have hfr : frP v ((k : Nat) : Int) := Classical.byContradiction (fun z => g3 z)
              refine nx_open ho hp hJ3 (fun M b hb1 hb2 hM fM => ?_)
              have hF4 := ((f1.tr f2).tr f3).tr fM
              have hcg : b = 1 → cgP v p := fun z => ⟨hv, by
                rcases hb2 z with h | h
                · exact Or.inr h
                · exact Or.inl ((op_bs ho hp).mp h)⟩
              refine g_l 309 rfl rfl ?_
              refine Go.lv (rfl : _ = [_, _, _, _, _, _, _, _, _, _, _, _, _, _, _, _]) ?_
              refine g_l 310 rfl rfl ?_
              refine g_p 311 rfl rfl ?_
              refine g_ic_ne rfl (by omega) (by omega) (fun g4 => ?_) (fun g4 => ?_)
              · refine g_p 325 rfl rfl ?_
                exact nx_try (t := 0) ho hp (by omega) (by omega) hv hfr hP hC hb1 (fun z => hmin p hp (hcg z) (4 * k + 0) (by omega) ⟨Or.inl (by omega), by rw [show (4 * k + 0) / 4 = k by omega]; exact hfr⟩) hM (fun M2 n2 o11 o12 o13 o14 o15 h1 h2 h3 => skip M2 n2 _ _ _ _ _ h1 h2 (hF4.tr h3))
              · refine g_l 316 rfl rfl ?_
                refine g_l 318 rfl rfl ?_
                refine g_p 319 rfl rfl ?_
                refine g_p 320 rfl rfl ?_
                refine g_rem 321 rfl (by omega) (by omega) ?_
                refine g_goto rfl ?_
                rw [show ((p : Int) + (k : Int)) % 4 = (((p + k) % 4 : Nat) : Int) by omega]
                exact nx_try (t := (p + k) % 4) ho hp (by omega) (by omega) hv hfr hP hC hb1 (fun z => hmin p hp (hcg z) (4 * k + (p + k) % 4) (by omega) ⟨Or.inr (by omega), by rw [show (4 * k + (p + k) % 4) / 4 = k by omega]; exact hfr⟩) hM (fun M2 n2 o11 o12 o13 o14 o15 h1 h2 h3 => skip M2 n2 _ _ _ _ _ h1 h2 (hF4.tr h3))
    refine g_l 163 rfl rfl ?_
    refine g_l 165 rfl rfl ?_
    refine g_ic_ge rfl (by omega) (by omega) (fun g => ?_) (fun g => ?_)
    · exact absurd g (by omega)
    · refine g_l 170 rfl rfl ?_
      refine g_if_eq rfl (by omega) (fun g2 => ?_) (fun g2 => ?_)
      · exact absurd g2 (by omega)
      · refine g_p 174 rfl rfl ?_
        refine g_l 176 rfl rfl ?_
        refine Go.lv (rfl : _ = [_, _, _, _, _, _, _, _, _, _, _, _, _, _, _, _]) ?_
        exact inner (fN v) 0 J n1 _ _ _ _ _ (by omega) hJ hn hF
set_option maxRecDepth 16384 in
theorem l_next {tu : Int} (h : Lst I v n) (ht : tu = 0 ∨ tu = 1) (hw : tab4 v) : Ct L (d + 7) k_L_isNext [vR 2, vI tu] I (fun r J => r = some (vI 1) ∧ FrC I J ∧ ∃ (v' : Nat → Int) (n' : Nat), Lst J v' n' ∧ (v' 0 = v 0 ∧ v' 9 = v 9 ∧ v' 10 = v 10) ∧ n ≤ n' ∧ (lyg v < fS v ∧ lyg v < v 0 → lyg v' = lyg v + 1 ∧ (n < n' ∨ n' = 6)) ∧ (¬ (lyg v < fS v ∧ lyg v < v 0) → lyg v' = lyg v)) := by
  have ho := h.ok
  have hf := fS_rng ho
  have hN := fN_le ho
  have hl := ly_rng ho
  have h910 := ho.2.2.1
  have rcs : 0 ≤ csA v ∧ csA v ≤ 384 := by
    have h1 := wcF_rng (fC v) (vc v) (v 9) (fS v) (fS v).toNat 0
    unfold csA
    omega
  have hb : ∀ j, j < 8 → -1 ≤ v (11 + j) ∧ v (11 + j) ≤ 31 := fun j hj => by
    have := ho.2.2.2.1 j hj
    have := ho.1
    omega
  have hx := nx_law ho ht hw
  show Go L (d + 7) k_L_isNext 0 [some (vR 2), some (vI tu), none, none, none, none, none, none, none, none, none, none, none, none, none, none] [] I _
  have h0 := fun J (hJ : Lst J v n) => q_next (L := L) (d := d + 1) (tu := tu) (w := 0) hJ ht (by omega)
  have h1 := fun J (hJ : Lst J v n) => q_next (L := L) (d := d + 1) (tu := tu) (w := 1) hJ ht (by omega)
  have h2 := fun J (hJ : Lst J v n) => q_next (L := L) (d := d + 1) (tu := tu) (w := 2) hJ ht (by omega)
  generalize nxA v tu 0 = P0 at hx h0
  generalize nxA v tu 1 = C0 at hx h1
  generalize nxA v tu 2 = G0 at hx h2
  refine g_l 1 rfl rfl ?_
  refine g_l 2 rfl rfl ?_
  refine g_p 3 rfl rfl ?_
  refine g_call rfl (h0 I h) (fun r J1 hJ1 => ?_) (hr := rcv2 rfl)
  obtain ⟨rfl, hJ1, f1⟩ := hJ1
  refine g_l 7 rfl rfl ?_
  refine Go.lv (rfl : _ = [_, _, _, _, _, _, _, _, _, _, _, _, _, _, _, _]) ?_
  refine g_l 8 rfl rfl ?_
  refine g_l 9 rfl rfl ?_
  refine g_p 10 rfl rfl ?_
  refine g_call rfl (h1 J1 hJ1) (fun r J2 hJ2 => ?_) (hr := rcv2 rfl)
  obtain ⟨rfl, hJ2, f2⟩ := hJ2
  refine g_l 14 rfl rfl ?_
  refine Go.lv (rfl : _ = [_, _, _, _, _, _, _, _, _, _, _, _, _, _, _, _]) ?_
  refine g_l 15 rfl rfl ?_
  refine g_l 16 rfl rfl ?_
  refine g_p 17 rfl rfl ?_
  refine g_call rfl (h2 J2 hJ2) (fun r J3 hJ3 => ?_) (hr := rcv2 rfl)
  obtain ⟨rfl, hJ3, f3⟩ := hJ3
  refine g_l 22 rfl rfl ?_
  refine Go.lv (rfl : _ = [_, _, _, _, _, _, _, _, _, _, _, _, _, _, _, _]) ?_
  refine g_l 23 rfl rfl ?_
  refine g_call rfl (q_cost hJ3) (fun r J4 hJ4 => ?_) (hr := rcv2 rfl)
  obtain ⟨rfl, hJ4, f4⟩ := hJ4
  refine g_l 28 rfl rfl ?_
  refine Go.lv (rfl : _ = [_, _, _, _, _, _, _, _, _, _, _, _, _, _, _, _]) ?_
  refine g_l 29 rfl rfl ?_
  refine g_p 30 rfl rfl ?_
  refine g_call rfl (q_told (v 9) hJ4 (by omega)) (fun r J5 hJ5 => ?_) (hr := rcv2 rfl)
  obtain ⟨rfl, hJ5, f5⟩ := hJ5
  refine g_l 34 rfl rfl ?_
  refine g_p 36 rfl rfl ?_
  refine g_call rfl (q_told (v 10) hJ5 (by omega)) (fun r J6 hJ6 => ?_) (hr := rcv2 rfl)
  obtain ⟨rfl, hJ6, f6⟩ := hJ6
  have hF6 := ((((f1.tr f2).tr f3).tr f4).tr f5).tr f6
  refine g_p 40 rfl rfl ?_
  rw [show v 9 * v 10 = fS v from rfl]
  refine g_l 42 rfl rfl ?_
  refine Go.lv (rfl : _ = [_, _, _, _, _, _, _, _, _, _, _, _, _, _, _, _]) ?_
  refine g_p 43 rfl rfl ?_
  refine g_l 45 rfl rfl ?_
  refine Go.lv (rfl : _ = [_, _, _, _, _, _, _, _, _, _, _, _, _, _, _, _]) ?_
  refine g_p 46 rfl rfl ?_
  refine g_l 48 rfl rfl ?_
  refine Go.lv (rfl : _ = [_, _, _, _, _, _, _, _, _, _, _, _, _, _, _, _]) ?_
  have rest : ∀ J : zI, Lst J v n → FrC I J → ∀ o8, Go L (d + 7) k_L_isNext 80 [some (vR 2), some (vI tu), some (vI P0), some (vI C0), some (vI G0), some (vI (csA v)), some (vI (fS v)), some (vI (lyg v)), o8, none, none, none, none, none, none, none] [] J (fun r J => r = some (vI 1) ∧ FrC I J ∧ ∃ (v' : Nat → Int) (n' : Nat), Lst J v' n' ∧ (v' 0 = v 0 ∧ v' 9 = v 9 ∧ v' 10 = v 10) ∧ n ≤ n' ∧ (lyg v < fS v ∧ lyg v < v 0 → lyg v' = lyg v + 1 ∧ (n < n' ∨ n' = 6)) ∧ (¬ (lyg v < fS v ∧ lyg v < v 0) → lyg v' = lyg v)) := fun J hJ hF o8 => by
    rcases hx with ⟨rfl, rfl, rfl, hx⟩ | ⟨P, C, rfl, rfl, rfl, a1, a2, a3, a4, a6⟩
    · have end1 : ∀ J : zI, Lst J v n → FrC I J → Go L (d + 7) k_L_isNext 113 [some (vR 2), some (vI tu), some (vI (-1)), some (vI (-1)), some (vI (-1)), some (vI (csA v)), some (vI (fS v)), some (vI (lyg v)), o8, none, none, none, none, none, none, none] [] J (fun r J => r = some (vI 1) ∧ FrC I J ∧ ∃ (v' : Nat → Int) (n' : Nat), Lst J v' n' ∧ (v' 0 = v 0 ∧ v' 9 = v 9 ∧ v' 10 = v 10) ∧ n ≤ n' ∧ (lyg v < fS v ∧ lyg v < v 0 → lyg v' = lyg v + 1 ∧ (n < n' ∨ n' = 6)) ∧ (¬ (lyg v < fS v ∧ lyg v < v 0) → lyg v' = lyg v)) := fun J hJ hF => by
        refine g_p 114 rfl rfl ?_
        refine g_goto rfl ?_
        exact g_retb rfl rfl (Or.inr rfl) ⟨rfl, hF, v, n, hJ, ⟨rfl, rfl, rfl⟩, Nat.le_refl _, fun z => absurd z (by omega), fun _ => rfl⟩
      refine g_l 81 rfl rfl ?_
      refine g_p 82 rfl rfl ?_
      refine g_ic_ne rfl (by omega) (by omega) (fun g1 => ?_) (fun g1 => ?_)
      · exact absurd rfl g1
      · refine g_l 86 rfl rfl ?_
        refine g_p 87 rfl rfl ?_
        refine g_ic_ne rfl (by omega) (by omega) (fun g2 => ?_) (fun g2 => ?_)
        · exact absurd rfl g2
        · refine g_l 92 rfl rfl ?_
          refine g_p 93 rfl rfl ?_
          refine g_ic_ne rfl (by omega) (by omega) (fun g3 => ?_) (fun g3 => ?_)
          · exact absurd rfl g3
          · refine g_l 98 rfl rfl ?_
            refine g_l 100 rfl rfl ?_
            refine g_ic_eq rfl (by omega) (by omega) (fun g4 => ?_) (fun g4 => ?_)
            · exact end1 J hJ hF
            · refine g_l 105 rfl rfl ?_
              refine g_l 106 rfl rfl ?_
              refine g_p 107 rfl rfl ?_
              refine g_call rfl (q_told (v 0) hJ (by omega)) (fun r J1 hJ1 => ?_) (hr := rcv2 rfl)
              obtain ⟨rfl, hJ1, f1⟩ := hJ1
              refine g_ic_ne rfl (by omega) (by omega) (fun g5 => ?_) (fun g5 => ?_)
              · exact absurd g5 (by omega)
              · exact end1 J1 hJ1 (hF.tr f1)
    · have hbP := hb P (by omega)
      have r := adA_nn v P C
      refine g_l 81 rfl rfl ?_
      refine g_p 82 rfl rfl ?_
      refine g_ic_ne rfl (by omega) (by omega) (fun g1 => ?_) (fun g1 => ?_)
      · refine g_l 120 rfl rfl ?_
        refine g_l 121 rfl rfl ?_
        refine g_call rfl (q_at P hJ rfl a1) (fun r J1 hJ1 => ?_) (hr := rcv2 rfl)
        obtain ⟨rfl, hJ1, f1⟩ := hJ1
        rw [show v (11 + P) = -1 from a3.1]
        refine g_p 125 rfl rfl ?_
        have fin : ∀ J : zI, Lst J v n → FrC I J → Go L (d + 7) k_L_isNext 139 [some (vR 2), some (vI tu), some (vI (P : Int)), some (vI (C : Int)), some (vI (adA v P C)), some (vI (csA v)), some (vI (fS v)), some (vI (lyg v)), o8, none, none, none, none, none, none, none] [] J (fun r J => r = some (vI 1) ∧ FrC I J ∧ ∃ (v' : Nat → Int) (n' : Nat), Lst J v' n' ∧ (v' 0 = v 0 ∧ v' 9 = v 9 ∧ v' 10 = v 10) ∧ n ≤ n' ∧ (lyg v < fS v ∧ lyg v < v 0 → lyg v' = lyg v + 1 ∧ (n < n' ∨ n' = 6)) ∧ (¬ (lyg v < fS v ∧ lyg v < v 0) → lyg v' = lyg v)) := fun J hJ hF => by
          refine g_l 140 rfl rfl ?_
          refine g_l 141 rfl rfl ?_
          refine g_p 142 rfl rfl ?_
          refine g_div 143 rfl (by omega) (by omega) ?_
          refine g_p 144 rfl rfl ?_
          refine g_call rfl (q_of (C / 4) hJ (by omega) (by omega) (by omega)) (fun r J2 hJ2 => ?_) (hr := rcv2 rfl)
          obtain ⟨rfl, hJ2, f2⟩ := hJ2
          have e3 : ofA v (C / 4) 3 = -1 := a4.2
          rw [e3]
          refine g_p 148 rfl rfl ?_
          refine g_ic_ne rfl (by omega) (by omega) (fun g4 => ?_) (fun g4 => ?_)
          · exact absurd rfl g4
          · refine g_p 152 rfl rfl ?_
            refine g_goto rfl ?_
            refine g_l 158 rfl rfl ?_
            refine Go.lv (rfl : _ = [_, _, _, _, _, _, _, _, _, _, _, _, _, _, _, _]) ?_
            refine g_p 159 rfl rfl ?_
            refine g_l 161 rfl rfl ?_
            refine Go.lv (rfl : _ = [_, _, _, _, _, _, _, _, _, _, _, _, _, _, _, _]) ?_
            exact nx_loop ho ht a1 a2 a3 a4 a6 (fS v).toNat 0 J2 n _ _ _ _ _ _ (by omega) hJ2 (Nat.le_refl _) (hF.tr f2)
        refine g_ic_ne rfl (by omega) (by omega) (fun g2 => ?_) (fun g2 => ?_)
        · exact absurd rfl g2
        · refine g_l 129 rfl rfl ?_
          refine g_p 130 rfl rfl ?_
          refine g_ic_eq rfl (by omega) (by omega) (fun g3 => ?_) (fun g3 => ?_)
          · exact fin J1 hJ1 (hF.tr f1)
          · refine g_l 134 rfl rfl ?_
            refine g_p 135 rfl rfl ?_
            refine g_rem 136 rfl (by omega) (by omega) ?_
            refine g_if_ne rfl (by omega) (fun g4 => ?_) (fun g4 => ?_)
            · rcases a4.1 with z | z
              · exact absurd (show (C : Int) % 4 = 0 by omega) g4
              · exact absurd z g3
            · exact fin J1 hJ1 (hF.tr f1)
      · exact absurd g1 (by omega)
  have key : ∀ (m p : Nat) (J : zI), ((p + m : Nat) : Int) = fS v → Lst J v n → FrC I J → Go L (d + 7) k_L_isNext 48 [some (vR 2), some (vI tu), some (vI P0), some (vI C0), some (vI G0), some (vI (csA v)), some (vI (fS v)), some (vI (sgF (fun p => b2c (vc v p ≠ -1)) p)), some (vI (p : Int)), none, none, none, none, none, none, none] [] J (fun r J => r = some (vI 1) ∧ FrC I J ∧ ∃ (v' : Nat → Int) (n' : Nat), Lst J v' n' ∧ (v' 0 = v 0 ∧ v' 9 = v 9 ∧ v' 10 = v 10) ∧ n ≤ n' ∧ (lyg v < fS v ∧ lyg v < v 0 → lyg v' = lyg v + 1 ∧ (n < n' ∨ n' = 6)) ∧ (¬ (lyg v < fS v ∧ lyg v < v 0) → lyg v' = lyg v)) := by
    intro m
    induction m with
    | zero =>
      intro p J hpm hJ hF
      refine g_l 50 rfl rfl ?_
      refine g_l 52 rfl rfl ?_
      refine g_ic_ge rfl (by omega) (by omega) (fun g => ?_) (fun g => ?_)
      · have e : sgF (fun p => b2c (vc v p ≠ -1)) p = lyg v := by
          rw [ly_sg, show (fS v).toNat = p by omega]
        rw [e]
        exact rest J hJ hF _
      · exact absurd (show fS v ≤ (p : Int) by omega) g
    | succ m ih =>
      intro p J hpm hJ hF
      have hbp := hb p (by omega)
      refine g_l 50 rfl rfl ?_
      refine g_l 52 rfl rfl ?_
      refine g_ic_ge rfl (by omega) (by omega) (fun g => ?_) (fun g => ?_)
      · exact absurd g (by omega)
      · refine g_l 57 rfl rfl ?_
        refine g_l 58 rfl rfl ?_
        refine g_l 60 rfl rfl ?_
        refine g_call rfl (q_at p hJ rfl (by omega)) (fun r J1 hJ1 => ?_) (hr := rcv2 rfl)
        obtain ⟨rfl, hJ1, f1⟩ := hJ1
        have es : sgF (fun p => b2c (vc v p ≠ -1)) (p + 1) = sgF (fun p => b2c (vc v p ≠ -1)) p + b2c (v (11 + p) ≠ -1) := rfl
        have hi := ih (p + 1) J1 (by omega) hJ1 (hF.tr f1)
        rw [es] at hi
        refine g_if_lt rfl (by omega) (fun g2 => ?_) (fun g2 => ?_)
        · rw [b2c_0 (show ¬ v (11 + p) ≠ -1 by omega)] at hi
          refine g_p 71 rfl rfl ?_
          refine g_p 72 rfl rfl ?_
          refine g_l 74 rfl rfl ?_
          refine Go.lv (rfl : _ = [_, _, _, _, _, _, _, _, _, _, _, _, _, _, _, _]) ?_
          refine g_l 77 rfl rfl ?_
          refine Go.lv (rfl : _ = [_, _, _, _, _, _, _, _, _, _, _, _, _, _, _, _]) ?_
          refine g_goto rfl ?_
          exact hi
        · rw [b2c_1 (show v (11 + p) ≠ -1 by omega)] at hi
          refine g_p 67 rfl rfl ?_
          refine g_goto rfl ?_
          refine g_p 72 rfl rfl ?_
          refine g_l 74 rfl rfl ?_
          refine Go.lv (rfl : _ = [_, _, _, _, _, _, _, _, _, _, _, _, _, _, _, _]) ?_
          refine g_l 77 rfl rfl ?_
          refine Go.lv (rfl : _ = [_, _, _, _, _, _, _, _, _, _, _, _, _, _, _, _]) ?_
          refine g_goto rfl ?_
          exact hi
  exact key (fS v).toNat 0 J6 (by omega) hJ6 hF6
end NM
