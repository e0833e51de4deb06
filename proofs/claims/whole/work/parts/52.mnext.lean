/-! EdgeJoinModel: the table's cost, the next piece -/
theorem sgF_add (a b : Nat → Int) : ∀ n, sgF (fun p => a p + b p) n = sgF a n + sgF b n
  | 0 => rfl
  | n + 1 => by
    rw [sgF, sgF, sgF, sgF_add a b n]
    omega
theorem sgF_z {a : Nat → Int} : ∀ n, (∀ p, p < n → a p = 0) → sgF a n = 0
  | 0, _ => rfl
  | n + 1, h => by
    rw [sgF, sgF_z n (fun p hp => h p (by omega)), h n (by omega)]
    rfl
theorem sgF_sh {a b : Nat → Int} {w n : Nat} (h0 : ∀ p, p < w → a p = 0) (h1 : ∀ p, p + w < n → a (p + w) = b p) : ∀ m, m + w ≤ n → sgF a (m + w) = sgF b m
  | 0, _ => by rw [Nat.zero_add, sgF_z w h0]; rfl
  | m + 1, h => by
    rw [show m + 1 + w = (m + w) + 1 by omega, sgF, sgF, sgF_sh h0 h1 m (by omega), h1 m (by omega)]
theorem sgF_tl {b : Nat → Int} {k : Nat} : ∀ j, (∀ p, k ≤ p → p < k + j → b p = 0) → sgF b (k + j) = sgF b k
  | 0, _ => rfl
  | j + 1, h => by
    rw [show k + (j + 1) = (k + j) + 1 by omega, sgF, sgF_tl j (fun p h1 h2 => h p h1 (by omega)), h (k + j) (by omega) (by omega), Int.add_zero]
theorem sgF_eq {a b : Nat → Int} {w n : Nat} (hw : w ≤ n) (h0 : ∀ p, p < w → a p = 0) (h1 : ∀ p, p + w < n → a (p + w) = b p) (h2 : ∀ p, p < n → n ≤ p + w → b p = 0) : sgF a n = sgF b n := by
  have e1 := sgF_sh h0 h1 (n - w) (by omega)
  have e2 := sgF_tl (b := b) (k := n - w) w (fun p h3 h4 => h2 p (by omega) (by omega))
  rw [show n - w + w = n by omega] at e1 e2
  rw [e1, e2]
theorem sgF_cg {a b : Nat → Int} : ∀ n, (∀ p, p < n → a p = b p) → sgF a n = sgF b n
  | 0, _ => rfl
  | n + 1, h => by rw [sgF, sgF, sgF_cg n (fun p hp => h p (by omega)), h n (by omega)]
/-- what touches at side s of place p -/
def tch (v : Nat → Int) (s : Int) (p : Nat) : Int := if v (11 + p) ≠ -1 ∧ nb (v 9) (fS v) p s ≠ -1 ∧ vc v (nb (v 9) (fS v) p s).toNat ≠ -1 then tdf (fC v) (v (11 + p)) s (vc v (nb (v 9) (fS v) p s).toNat) else 0
theorem tch_rng (v : Nat → Int) (s : Int) (p : Nat) : 0 ≤ tch v s p ∧ tch v s p ≤ 12 := by
  have := tdf_rng (fC v) (v (11 + p)) s (vc v (nb (v 9) (fS v) p s).toNat)
  unfold tch
  split <;> omega
theorem ad_tch {v : Nat → Int} {p : Nat} (h : v (11 + p) ≠ -1) : adC (fC v) (vc v) (v 9) (fS v) p (vc v p) = tch v 0 p + (tch v 1 p + (tch v 2 p + tch v 3 p)) := by
  have e : ∀ s : Nat, (if nb (v 9) (fS v) p s ≠ -1 ∧ vc v (nb (v 9) (fS v) p s).toNat ≠ -1 then tdf (fC v) (vc v p) s (vc v (nb (v 9) (fS v) p s).toNat) else 0) = tch v s p := fun s => by
    unfold tch
    by_cases hc : nb (v 9) (fS v) p s ≠ -1 ∧ vc v (nb (v 9) (fS v) p s).toNat ≠ -1
    · rw [if_pos hc, if_pos ⟨h, hc⟩]
      rfl
    · rw [if_neg hc, if_neg (fun z => hc z.2)]
  unfold adC
  rw [adF, adF, adF, adF, adF, e, e, e, e, Int.add_zero]
  rfl
theorem tch_no {v : Nat → Int} {s : Int} {p : Nat} (h : v (11 + p) = -1 ∨ nb (v 9) (fS v) p s = -1) : tch v s p = 0 := by
  unfold tch
  rw [if_neg (fun z => by rcases h with h | h; exact z.1 h; exact z.2.1 h)]
theorem tch_sw {v : Nat → Int} {s t : Int} {p q : Nat} (h1 : nb (v 9) (fS v) p s = (q : Int)) (h2 : nb (v 9) (fS v) q t = (p : Int)) (hs1 : (s + 2) % 4 = t) (ht : (t + 2) % 4 = s) : tch v s p = tch v t q := by
  unfold tch
  rw [h1, h2, Int.toNat_natCast, Int.toNat_natCast]
  by_cases hc : v (11 + p) ≠ -1 ∧ v (11 + q) ≠ -1
  · rw [if_pos ⟨hc.1, by omega, hc.2⟩, if_pos ⟨hc.2, by omega, hc.1⟩]
    unfold tdf
    rw [hs1, ht]
    exact dif_comm _ _
  · rw [if_neg (fun z => hc ⟨z.1, z.2.2⟩), if_neg (fun z => hc ⟨z.2.2, z.1⟩)]
theorem tch_31 {v : Nat → Int} (ho : OKv v) : sgF (tch v 3) (fS v).toNat = sgF (tch v 1) (fS v).toNat := by
  obtain ⟨wn, gn, e9, e10, w1, g1, n1, n8, eS⟩ := fS_nat ho
  have a3 : ∀ p : Nat, nb (v 9) (fS v) p 3 = if 0 < p % wn then (p : Int) - 1 else -1 := fun p => by
    have : nb (v 9) (fS v) p 3 = if 0 < (p : Int) % v 9 then (p : Int) - 1 else -1 := rfl
    rw [this, e9, ← Int.natCast_emod]
    by_cases hc : 0 < p % wn
    · rw [if_pos hc, if_pos (by omega)]
    · rw [if_neg hc, if_neg (by omega)]
  have a1 : ∀ p : Nat, nb (v 9) (fS v) p 1 = if p % wn + 1 < wn then (p : Int) + 1 else -1 := fun p => by
    have : nb (v 9) (fS v) p 1 = if (p : Int) % v 9 < v 9 - 1 then (p : Int) + 1 else -1 := rfl
    rw [this, e9, ← Int.natCast_emod]
    by_cases hc : p % wn + 1 < wn
    · rw [if_pos hc, if_pos (by omega)]
    · rw [if_neg hc, if_neg (by omega)]
  rw [eS, Int.toNat_natCast]
  refine sgF_eq (w := 1) n1 (fun p hp => ?_) (fun p hp => ?_) (fun p hp hq => ?_)
  · refine tch_no (Or.inr ?_)
    rw [a3, if_neg (by rw [show p = 0 by omega, Nat.zero_mod]; omega)]
  · have hc := colN wn (by omega) w1.1 p (by omega)
    by_cases h : 0 < (p + 1) % wn
    · refine tch_sw ?_ ?_ rfl rfl
      · rw [a3, if_pos h]
        omega
      · rw [a1, if_pos (hc.mp h)]
        rfl
    · rw [tch_no (Or.inr (by rw [a3, if_neg h])), tch_no (Or.inr (by rw [a1, if_neg (fun z => h (hc.mpr z))]))]
  · have hc := colE wn (by omega) gn (by omega) n8 w1.1 g1.1
    refine tch_no (Or.inr ?_)
    rw [a1, if_neg (by rw [show p = wn * gn - 1 by omega]; omega)]
theorem tch_02 {v : Nat → Int} (ho : OKv v) : sgF (tch v 0) (fS v).toNat = sgF (tch v 2) (fS v).toNat := by
  obtain ⟨wn, gn, e9, e10, w1, g1, n1, n8, eS⟩ := fS_nat ho
  have a0 : ∀ p : Nat, nb (v 9) (fS v) p 0 = if wn ≤ p then (p : Int) - wn else -1 := fun p => by
    have : nb (v 9) (fS v) p 0 = if v 9 ≤ (p : Int) then (p : Int) - v 9 else -1 := rfl
    rw [this, e9]
    by_cases hc : wn ≤ p
    · rw [if_pos hc, if_pos (by omega)]
    · rw [if_neg hc, if_neg (by omega)]
  have a2 : ∀ p : Nat, nb (v 9) (fS v) p 2 = if p + wn < wn * gn then (p : Int) + wn else -1 := fun p => by
    have : nb (v 9) (fS v) p 2 = if (p : Int) + v 9 < fS v then (p : Int) + v 9 else -1 := rfl
    rw [this, e9, eS]
    by_cases hc : p + wn < wn * gn
    · rw [if_pos hc, if_pos (by omega)]
    · rw [if_neg hc, if_neg (by omega)]
  have hle : wn ≤ wn * gn := Nat.le_mul_of_pos_right wn (by omega)
  rw [eS, Int.toNat_natCast]
  refine sgF_eq (w := wn) hle (fun p hp => ?_) (fun p hp => ?_) (fun p hp hq => ?_)
  · refine tch_no (Or.inr ?_)
    rw [a0, if_neg (by omega)]
  · refine tch_sw ?_ ?_ rfl rfl
    · rw [a0, if_pos (by omega)]
      omega
    · rw [a2, if_pos hp]
      omega
  · refine tch_no (Or.inr ?_)
    rw [a2, if_neg (by omega)]
theorem wc_sg {v : Nat → Int} : ∀ (m p : Nat), wcF (fC v) (vc v) (v 9) (fS v) m p + sgF (fun p => tch v 0 p + (tch v 1 p + (tch v 2 p + tch v 3 p))) p = sgF (fun p => tch v 0 p + (tch v 1 p + (tch v 2 p + tch v 3 p))) (p + m)
  | 0, p => by rw [wcF, Int.zero_add]; rfl
  | m + 1, p => by
    have h := wc_sg (v := v) m (p + 1)
    rw [show p + (m + 1) = p + 1 + m by omega, ← h, sgF, wcF]
    have e : (if vc v p = -1 then 0 else adC (fC v) (vc v) (v 9) (fS v) p (vc v p)) = tch v 0 p + (tch v 1 p + (tch v 2 p + tch v 3 p)) := by
      by_cases hc : vc v p = -1
      · rw [if_pos hc, tch_no (Or.inl hc), tch_no (Or.inl hc), tch_no (Or.inl hc), tch_no (Or.inl hc)]
        rfl
      · rw [if_neg hc]
        exact ad_tch hc
    rw [e]
    omega
theorem cs_sg {v : Nat → Int} (ho : OKv v) : csA v = sgF (fun p => tch v 1 p + tch v 2 p) (fS v).toNat := by
  have h := wc_sg (v := v) (fS v).toNat 0
  have h1 := tch_31 ho
  have h2 := tch_02 ho
  rw [sgF_add, sgF_add, sgF_add, sgF_add, sgF_add, sgF_add, Nat.zero_add] at h
  have z : ∀ g : Nat → Int, sgF g 0 = 0 := fun _ => rfl
  rw [z, z, z, z] at h
  unfold csA
  rw [sgF_add]
  omega
noncomputable def b2c (P : Prop) : Int := @ite Int P (Classical.propDecidable P) 1 0
theorem b2c_1 {P : Prop} (h : P) : b2c P = 1 := if_pos h
theorem b2c_0 {P : Prop} (h : ¬ P) : b2c P = 0 := if_neg h
/-- the best of a place behind others -/
def nfF (v : Nat → Int) (p : Nat) (tu : Int) : Nat → Nat → Int × Int × Int → Int × Int × Int
  | 0, _, B => B
  | m + 1, c, B => nfF v p tu m (c + 1) (if ((c % 4 = 0 ∨ tu = 1) ∧ frP v ((c / 4 : Nat) : Int)) ∧ adA v p c < B.1 then (adA v p c, (p : Int), (c : Int)) else B)
theorem nfF_fc (v : Nat → Int) (p : Nat) (tu : Int) (B : Int × Int × Int) : ∀ (m c : Nat) (b x : Int), nfF v p tu m c (if b < B.1 then (b, (p : Int), x) else B) = if (fcF v p tu m c b x).1 < B.1 then ((fcF v p tu m c b x).1, (p : Int), (fcF v p tu m c b x).2) else B
  | 0, c, b, x => rfl
  | m + 1, c, b, x => by
    rw [nfF, fcF]
    by_cases hc : (c % 4 = 0 ∨ tu = 1) ∧ frP v ((c / 4 : Nat) : Int)
    · by_cases hb : adA v p c < b
      · rw [if_pos (show ((c % 4 = 0 ∨ tu = 1) ∧ frP v ((c / 4 : Nat) : Int)) ∧ adA v p c < b from ⟨hc, hb⟩), ← nfF_fc v p tu B m (c + 1) (adA v p c) c]
        congr 1
        by_cases h1 : b < B.1
        · rw [if_pos h1, if_pos ⟨hc, hb⟩, if_pos (by omega)]
        · rw [if_neg h1]
          by_cases h2 : adA v p c < B.1
          · rw [if_pos ⟨hc, h2⟩, if_pos h2]
          · rw [if_neg (fun z => h2 z.2), if_neg h2]
      · rw [if_neg (show ¬ (((c % 4 = 0 ∨ tu = 1) ∧ frP v ((c / 4 : Nat) : Int)) ∧ adA v p c < b) from fun z => hb z.2), ← nfF_fc v p tu B m (c + 1) b x]
        congr 1
        by_cases h1 : b < B.1
        · rw [if_pos h1, if_neg (fun z => hb z.2)]
        · rw [if_neg h1, if_neg (fun z => absurd z.2 (by omega))]
    · rw [if_neg (show ¬ (((c % 4 = 0 ∨ tu = 1) ∧ frP v ((c / 4 : Nat) : Int)) ∧ adA v p c < b) from fun z => hc z.1), if_neg (fun z => hc z.1)]
      exact nfF_fc v p tu B m (c + 1) b x
theorem nfF_st {v : Nat → Int} {p : Nat} {tu : Int} {B : Int × Int × Int} (hB : B.1 ≤ 1000) (hc : cgP v p) : nfF v p tu (4 * fN v) 0 B = if icA v tu p < B.1 then (icA v tu p, (p : Int), ctA v tu p) else B := by
  have h := nfF_fc v p tu B (4 * fN v) 0 1000 (-1)
  rw [if_neg (by omega)] at h
  have e : ctA v tu p = (fcF v p tu (4 * fN v) 0 1000 (-1)).2 := if_pos hc
  have e2 : icA v tu p = (fcF v p tu (4 * fN v) 0 1000 (-1)).1 := by
    have hr := fcF_rng (v := v) (p := p) (tu := tu) (4 * fN v) 0 1000 (-1) (by omega)
    unfold icA
    rw [e]
    rcases hr with hr | hr
    · rw [if_pos hr.1, hr.2]
    · rw [if_neg (by omega), hr.2.2.2]
  rw [h, e, e2]
section MX
variable {L d : Nat} {I : zI} {v : Nat → Int} {hs : Nat → Nat → Int} {hn : Nat} {ct tx : Nat → Int} {tl : Nat}
theorem m_costNow (hA : AL I v) (ho : OKv v) : Ev L (d + 4) k_X8_costNow [vR 137] I (some (vI (csA v))) I := by
  have hf := fN_le ho
  have hS := fS_rng ho
  have h4 := ho.2.2.2.1
  rw [cs_sg ho]
  have key : ∀ (m p : Nat) (o3 o4 : Option zV), p + m = (fS v).toNat → Go L (d + 4) k_X8_costNow 4 [some (vR 137), some (vI (sgF (fun p => tch v 1 p + tch v 2 p) p)), some (vI p), o3, o4] [] I (fun r J => r = some (vI (sgF (fun p => tch v 1 p + tch v 2 p) (fS v).toNat)) ∧ J = I) := by
    intro m
    induction m with
    | zero =>
      intro p o3 o4 hp
      have hp : p = (fS v).toNat := by omega
      subst hp
      refine g_l 5 rfl rfl ?_
      refine g_l 6 rfl rfl ?_
      refine g_callE rfl (m_places hA) ?_ (hr := rcvM rfl)
      refine g_ic_ge rfl (by omega) (by omega) (fun g => ?_) (fun g => ?_)
      · refine g_l 86 rfl rfl ?_
        exact g_ret rfl rfl ⟨rfl, rfl⟩
      · exact absurd g (by omega)
    | succ m ih =>
      intro p o3 o4 hp
      have hpS : (p : Int) < fS v := by omega
      have h4p := h4 p (by omega)
      generalize hx : sgF (fun p => tch v 1 p + tch v 2 p) p = x
      have hsum : sgF (fun p => tch v 1 p + tch v 2 p) (p + 1) = x + (tch v 1 p + tch v 2 p) := by rw [sgF, hx]
      have step : ∀ (s : Nat) (y : Int) (o4 : Option zV), s = 1 ∨ s = 2 → v (11 + p) ≠ -1 → (∀ o4, Go L (d + 4) k_X8_costNow 14 [some (vR 137), some (vI (y + tch v s p)), some (vI p), some (vI ((s : Int) + 1)), o4] [] I (fun r J => r = some (vI (sgF (fun p => tch v 1 p + tch v 2 p) (fS v).toNat)) ∧ J = I)) → Go L (d + 4) k_X8_costNow 14 [some (vR 137), some (vI y), some (vI p), some (vI s), o4] [] I (fun r J => r = some (vI (sgF (fun p => tch v 1 p + tch v 2 p) (fS v).toNat)) ∧ J = I) := by
        intro s y o4 hs1 hne cont
        have hnr := nb_rng (q := (s : Int)) hS.2.2 (p := p) (n := fS v) ⟨by omega, hpS⟩ hS.2.1
        obtain ⟨c, hc⟩ := Int.eq_ofNat_of_zero_le (show 0 ≤ v (11 + p) by omega)
        have h0 : tch v s p = 0 → ∀ o4, Go L (d + 4) k_X8_costNow 70 [some (vR 137), some (vI y), some (vI p), some (vI s), o4] [vI y] I (fun r J => r = some (vI (sgF (fun p => tch v 1 p + tch v 2 p) (fS v).toNat)) ∧ J = I) := fun hz o4 => by
          have h := cont o4
          rw [hz] at h
          refine g_p 71 rfl rfl ?_
          refine g_p 72 rfl rfl ?_
          refine g_l 73 rfl rfl ?_
          refine g_l 76 rfl rfl ?_
          refine g_goto rfl ?_
          exact h
        refine g_l 15 rfl rfl ?_
        refine g_p 16 rfl rfl ?_
        refine g_ic_ge rfl (by omega) (by omega) (fun g => ?_) (fun g => ?_)
        · exact absurd g (by omega)
        · refine g_l 20 rfl rfl ?_
          refine g_l 21 rfl rfl ?_
          refine g_callE rfl (m_lies hA (by omega)) ?_ (hr := rcvM rfl)
          refine g_if_lt rfl (by omega) (fun g1 => ?_) (fun g1 => ?_)
          · exact absurd g1 (by omega)
          · refine g_l 28 rfl rfl ?_
            refine g_l 29 rfl rfl ?_
            refine g_l 30 rfl rfl ?_
            refine g_callE rfl (m_beside hA ho hpS (by omega)) ?_ (hr := rcvM rfl)
            refine g_l 35 rfl rfl ?_
            refine g_l 36 rfl rfl ?_
            refine g_l 38 rfl rfl ?_
            refine g_p 39 rfl rfl ?_
            refine g_ic_eq rfl (by omega) (by omega) (fun g2 => ?_) (fun g2 => ?_)
            · exact h0 (tch_no (Or.inr g2)) _
            · obtain ⟨o, hoN⟩ := Int.eq_ofNat_of_zero_le (show 0 ≤ nb (v 9) (fS v) p s by omega)
              have h4o := h4 o (by omega)
              have ht : tch v s p = if vc v o ≠ -1 then tdf (fC v) c s (vc v o) else 0 := by
                unfold tch
                rw [hoN, Int.toNat_natCast, hc]
                by_cases hz : vc v o ≠ -1
                · rw [if_pos hz, if_pos ⟨by omega, by omega, hz⟩]
                · rw [if_neg hz, if_neg (fun w => hz w.2.2)]
              rw [hoN] at hnr ⊢
              refine g_l 43 rfl rfl ?_
              refine g_l 45 rfl rfl ?_
              refine g_callE rfl (m_lies hA (by omega)) ?_ (hr := rcvM rfl)
              refine g_if_lt rfl (by omega) (fun g3 => ?_) (fun g3 => ?_)
              · exact h0 (by rw [ht, if_neg (fun w => w (show v (11 + o) = -1 by omega))]) _
              · obtain ⟨u, hu⟩ := Int.eq_ofNat_of_zero_le (show 0 ≤ v (11 + o) by omega)
                rw [if_pos (show vc v o ≠ -1 from show v (11 + o) ≠ -1 by omega), show vc v o = (u : Int) from hu] at ht
                refine g_l 52 rfl rfl ?_
                refine g_l 53 rfl rfl ?_
                refine g_l 54 rfl rfl ?_
                refine g_callE rfl (m_lies hA (by omega)) ?_ (hr := rcvM rfl)
                rw [hc]
                refine g_l 58 rfl rfl ?_
                refine g_l 59 rfl rfl ?_
                refine g_l 61 rfl rfl ?_
                refine g_callE rfl (m_lies hA (by omega)) ?_ (hr := rcvM rfl)
                rw [hu]
                refine g_callE rfl (m_between hA ho (by omega) (by omega) (by omega)) ?_ (hr := rcvM rfl)
                rw [← ht]
                refine g_goto rfl ?_
                refine g_p 72 rfl rfl ?_
                refine g_l 73 rfl rfl ?_
                refine g_l 76 rfl rfl ?_
                refine g_goto rfl ?_
                exact cont _
      have fin : ∀ (o3 o4 : Option zV), Go L (d + 4) k_X8_costNow 79 [some (vR 137), some (vI (x + (tch v 1 p + tch v 2 p))), some (vI p), o3, o4] [] I (fun r J => r = some (vI (sgF (fun p => tch v 1 p + tch v 2 p) (fS v).toNat)) ∧ J = I) := fun o3 o4 => by
        have h := ih (p + 1) o3 o4 (by omega)
        rw [hsum] at h
        refine g_l 82 rfl rfl ?_
        refine g_goto rfl ?_
        exact h
      refine g_l 5 rfl rfl ?_
      refine g_l 6 rfl rfl ?_
      refine g_callE rfl (m_places hA) ?_ (hr := rcvM rfl)
      refine g_ic_ge rfl (by omega) (by omega) (fun g => ?_) (fun g => ?_)
      · exact absurd g (by omega)
      · refine g_p 13 rfl rfl ?_
        refine g_l 14 rfl rfl ?_
        by_cases hne : v (11 + p) = -1
        · have f := fin (some (vI 1)) o4
          rw [tch_no (Or.inl hne), tch_no (Or.inl hne), Int.add_zero, Int.add_zero] at f
          refine g_l 15 rfl rfl ?_
          refine g_p 16 rfl rfl ?_
          refine g_ic_ge rfl (by omega) (by omega) (fun g1 => ?_) (fun g1 => ?_)
          · exact absurd g1 (by decide)
          · refine g_l 20 rfl rfl ?_
            refine g_l 21 rfl rfl ?_
            refine g_callE rfl (m_lies hA (by omega)) ?_ (hr := rcvM rfl)
            refine g_if_lt rfl (by omega) (fun g2 => ?_) (fun g2 => ?_)
            · exact f
            · exact absurd g2 (by omega)
        · refine step 1 x _ (Or.inl rfl) hne (fun o4 => ?_)
          refine step 2 _ _ (Or.inr rfl) hne (fun o4 => ?_)
          have f := fin (some (vI 3)) o4
          rw [← Int.add_assoc] at f
          refine g_l 15 rfl rfl ?_
          refine g_p 16 rfl rfl ?_
          refine g_ic_ge rfl (by omega) (by omega) (fun g1 => ?_) (fun g1 => ?_)
          · exact f
          · exact absurd g1 (by decide)
  show Go L (d + 4) k_X8_costNow 0 [some (vR 137), none, none, none, none] [] I _
  refine g_p 1 rfl rfl ?_
  refine g_l 2 rfl rfl ?_
  refine g_p 3 rfl rfl ?_
  refine g_l 4 rfl rfl ?_
  exact key (fS v).toNat 0 none none (by omega)
theorem m_cost (h : MI I v hs hn ct tx tl) : Ct L (d + 5) k_X8_cost [vR 137] I (PN I (csA v, 0) v hs hn ct tx tl) := by
  show Go L (d + 5) k_X8_cost 0 [some (vR 137)] [] I _
  refine g_l 1 rfl rfl ?_
  refine g_callE rfl (m_costNow h.1 h.2.1) ?_ (hr := rcvM rfl)
  exact g_ret rfl rfl ⟨rfl, h, FrM.rf⟩
theorem m_isOpen {p : Nat} (hA : AL I v) (ho : OKv v) (hp : (p : Int) < fS v) : Ev L (d + 3) k_X8_isOpen [vR 137, vI p] I (some (vI (b2c (cgP v p)))) I := by
  have hf := fN_le ho
  have hS := fS_rng ho
  have h4 := ho.2.2.2.1
  have h4p := h4 p (by omega)
  have hcn := cnF_rng (vc v) (fS v).toNat 0
  have key : ∀ (m q : Nat) (b : Int) (o4 : Option zV), q + m = 4 → (b = 0 ∨ b = 1) → ((b = 1 ∨ bsF (vc v) (v 9) (fS v) p m q) ↔ (bsF (vc v) (v 9) (fS v) p 4 0 ∨ cn (vc v) (fS v) = 0)) → Go L (d + 3) k_X8_isOpen 15 [some (vR 137), some (vI p), some (vI b), some (vI q), o4] [] I (fun r J => r = some (vI (b2c (cgP v p))) ∧ J = I) := by
    intro m
    induction m with
    | zero =>
      intro q b o4 hq hb hbi
      refine g_l 16 rfl rfl ?_
      refine g_p 17 rfl rfl ?_
      refine g_ic_ge rfl (by omega) (by omega) (fun g => ?_) (fun g => ?_)
      · refine g_l 60 rfl rfl ?_
        refine g_if_eq rfl (by omega) (fun g1 => ?_) (fun g1 => ?_)
        · refine g_p 76 rfl rfl ?_
          rw [b2c_0 (show ¬ cgP v p from fun z => by
            rcases hbi.mpr z.2 with w | w
            · omega
            · exact w)]
          exact g_retb rfl rfl (Or.inl rfl) ⟨rfl, rfl⟩
        · refine g_l 64 rfl rfl ?_
          refine g_l 65 rfl rfl ?_
          refine g_callE rfl (m_lies hA (by omega)) ?_ (hr := rcvM rfl)
          refine g_if_ge rfl (by omega) (fun g2 => ?_) (fun g2 => ?_)
          · refine g_p 76 rfl rfl ?_
            rw [b2c_0 (show ¬ cgP v p from fun z => absurd z.1 (by omega))]
            exact g_retb rfl rfl (Or.inl rfl) ⟨rfl, rfl⟩
          · refine g_p 72 rfl rfl ?_
            refine g_goto rfl ?_
            rw [b2c_1 (show cgP v p from ⟨by omega, hbi.mp (Or.inl (by omega))⟩)]
            exact g_retb rfl rfl (Or.inr rfl) ⟨rfl, rfl⟩
      · exact absurd g (by omega)
    | succ m ih =>
      intro q b o4 hq hb hbi
      have hnr := nb_rng (q := (q : Int)) hS.2.2 (p := p) (n := fS v) ⟨by omega, hp⟩ hS.2.1
      have hs : bsF (vc v) (v 9) (fS v) p (m + 1) q ↔ ((nb (v 9) (fS v) p q ≠ -1 ∧ vc v (nb (v 9) (fS v) p q).toNat ≠ -1) ∨ bsF (vc v) (v 9) (fS v) p m (q + 1)) := Iff.rfl
      have yes : ∀ o4, (b = 1 ∨ (nb (v 9) (fS v) p q ≠ -1 ∧ vc v (nb (v 9) (fS v) p q).toNat ≠ -1)) → Go L (d + 3) k_X8_isOpen 47 [some (vR 137), some (vI p), some (vI b), some (vI q), o4] [] I (fun r J => r = some (vI (b2c (cgP v p))) ∧ J = I) := fun o4 hy => by
        refine g_p 48 rfl rfl ?_
        refine g_goto rfl ?_
        refine g_l 53 rfl rfl ?_
        refine g_l 56 rfl rfl ?_
        refine g_goto rfl ?_
        refine ih (q + 1) 1 _ (by omega) (Or.inr rfl) ⟨fun _ => hbi.mp ?_, fun _ => Or.inl rfl⟩
        rcases hy with hy | hy
        · exact Or.inl hy
        · exact Or.inr (hs.mpr (Or.inl hy))
      have no : ∀ o4, b = 0 → ¬ (nb (v 9) (fS v) p q ≠ -1 ∧ vc v (nb (v 9) (fS v) p q).toNat ≠ -1) → Go L (d + 3) k_X8_isOpen 51 [some (vR 137), some (vI p), some (vI b), some (vI q), o4] [] I (fun r J => r = some (vI (b2c (cgP v p))) ∧ J = I) := fun o4 hb0 hy => by
        refine g_p 52 rfl rfl ?_
        refine g_l 53 rfl rfl ?_
        refine g_l 56 rfl rfl ?_
        refine g_goto rfl ?_
        refine ih (q + 1) 0 _ (by omega) (Or.inl rfl) ⟨fun z => hbi.mp ?_, fun z => ?_⟩
        · rcases z with z | z
          · exact absurd z (by decide)
          · exact Or.inr (hs.mpr (Or.inr z))
        · rcases hbi.mpr z with w | w
          · omega
          · rcases hs.mp w with w | w
            · exact absurd w hy
            · exact Or.inr w
      refine g_l 16 rfl rfl ?_
      refine g_p 17 rfl rfl ?_
      refine g_ic_ge rfl (by omega) (by omega) (fun g => ?_) (fun g => ?_)
      · exact absurd g (by omega)
      · refine g_l 21 rfl rfl ?_
        refine g_l 22 rfl rfl ?_
        refine g_l 23 rfl rfl ?_
        refine g_callE rfl (m_beside hA ho hp (by omega)) ?_ (hr := rcvM rfl)
        refine g_l 28 rfl rfl ?_
        refine g_l 29 rfl rfl ?_
        refine g_if_ne rfl (by omega) (fun g1 => ?_) (fun g1 => ?_)
        · exact yes _ (Or.inl (by omega))
        · refine g_l 34 rfl rfl ?_
          refine g_p 35 rfl rfl ?_
          refine g_ic_eq rfl (by omega) (by omega) (fun g2 => ?_) (fun g2 => ?_)
          · exact no _ (by omega) (fun z => z.1 g2)
          · obtain ⟨o, hoN⟩ := Int.eq_ofNat_of_zero_le (show 0 ≤ nb (v 9) (fS v) p q by omega)
            have h4o := h4 o (by omega)
            have hvo : vc v (nb (v 9) (fS v) p q).toNat = v (11 + o) := by rw [hoN]; rfl
            rw [hvo] at yes no
            rw [hoN] at hnr yes no ⊢
            refine g_l 39 rfl rfl ?_
            refine g_l 41 rfl rfl ?_
            refine g_callE rfl (m_lies hA (by omega)) ?_ (hr := rcvM rfl)
            refine g_if_lt rfl (by omega) (fun g3 => ?_) (fun g3 => ?_)
            · exact no _ (by omega) (fun z => absurd z.2 (by omega))
            · exact yes _ (Or.inr ⟨by omega, by omega⟩)
  show Go L (d + 3) k_X8_isOpen 0 [some (vR 137), some (vI p), none, none, none] [] I _
  refine g_l 1 rfl rfl ?_
  refine g_callE rfl (m_lying hA ho) ?_ (hr := rcvM rfl)
  have hcn2 : 0 ≤ cn (vc v) (fS v) ∧ cn (vc v) (fS v) ≤ 8 := by
    unfold cn
    omega
  refine g_if_ne rfl (by omega) (fun g => ?_) (fun g => ?_)
  · refine g_p 12 rfl rfl ?_
    refine g_l 13 rfl rfl ?_
    refine g_p 14 rfl rfl ?_
    refine g_l 15 rfl rfl ?_
    exact key 4 0 0 none (by omega) (Or.inl rfl) ⟨fun z => Or.inl (by rcases z with z | z; exact absurd z (by decide); exact z), fun z => Or.inr (by rcases z with z | z; exact z; exact absurd z g)⟩
  · refine g_p 8 rfl rfl ?_
    refine g_goto rfl ?_
    refine g_l 13 rfl rfl ?_
    refine g_p 14 rfl rfl ?_
    refine g_l 15 rfl rfl ?_
    exact key 4 0 1 none (by omega) (Or.inr rfl) ⟨fun _ => Or.inr (Decidable.not_not.mp g), fun _ => Or.inl rfl⟩
theorem m_nextOf {tu w : Int} (hA : AL I v) (ho : OKv v) (ht : tu = 0 ∨ tu = 1) (hw : 0 ≤ w ∧ w < 3) : Ev L (d + 5) k_X8_nextOf [vR 137, vI tu, vI w] I (some (vI (nxA v tu w))) I := by
  have hf := fN_le ho
  have hS := fS_rng ho
  have key : ∀ (m p : Nat) (B : Int × Int × Int) (o7 o8 : Option zV), p + m = (fS v).toNat → (0 ≤ B.1 ∧ B.1 ≤ 1000) → (-1 ≤ B.2.1 ∧ B.2.1 ≤ 8) → (-1 ≤ B.2.2 ∧ B.2.2 ≤ 32) → (B.2.1 = -1 → B.2.2 = -1) → nxF v tu (fS v).toNat 0 1000 (-1) (-1) = nxF v tu m p B.1 B.2.1 B.2.2 → Go L (d + 5) k_X8_nextOf 13 [some (vR 137), some (vI tu), some (vI w), some (vI B.2.1), some (vI B.2.2), some (vI B.1), some (vI p), o7, o8] [] I (fun r J => r = some (vI (nxA v tu w)) ∧ J = I) := by
    intro m
    induction m with
    | zero =>
      intro p B o7 o8 hp hb1 hb2 hb3 hb4 hx
      have hx : nxF v tu (fS v).toNat 0 1000 (-1) (-1) = (B.1, B.2.1, B.2.2) := hx
      unfold nxA
      rw [hx]
      refine g_l 15 rfl rfl ?_
      refine g_l 16 rfl rfl ?_
      refine g_callE rfl (m_places hA) ?_ (hr := rcvM rfl)
      refine g_ic_ge rfl (by omega) (by omega) (fun g => ?_) (fun g => ?_)
      · refine g_l 138 rfl rfl ?_
        show Go L (d + 5) k_X8_nextOf 138 _ _ I (fun r J => r = some (vI (if B.2.1 = -1 ∨ w = 0 then B.2.1 else if w = 1 then B.2.2 else B.1)) ∧ J = I)
        refine g_if_ne rfl (by omega) (fun g0 => ?_) (fun g0 => ?_)
        · refine g_l 146 rfl rfl ?_
          refine g_p 147 rfl rfl ?_
          refine g_ic_ne rfl (by omega) (by omega) (fun g1 => ?_) (fun g1 => ?_)
          · refine g_l 156 rfl rfl ?_
            refine g_p 157 rfl rfl ?_
            refine g_ic_ne rfl (by omega) (by omega) (fun g2 => ?_) (fun g2 => ?_)
            · refine g_l 166 rfl rfl ?_
              rw [if_neg (by omega), if_neg g1]
              exact g_ret rfl rfl ⟨rfl, rfl⟩
            · refine g_p 161 rfl rfl ?_
              refine g_goto rfl ?_
              rw [if_pos (Or.inl (Decidable.not_not.mp g2)), Decidable.not_not.mp g2]
              exact g_ret rfl rfl ⟨rfl, rfl⟩
          · refine g_l 152 rfl rfl ?_
            refine g_goto rfl ?_
            by_cases g2 : B.2.1 = -1
            · rw [if_pos (Or.inl g2), g2, hb4 g2]
              exact g_ret rfl rfl ⟨rfl, rfl⟩
            · rw [if_neg (by omega), if_pos (Decidable.not_not.mp g1)]
              exact g_ret rfl rfl ⟨rfl, rfl⟩
        · refine g_l 142 rfl rfl ?_
          refine g_goto rfl ?_
          rw [if_pos (Or.inr (Decidable.not_not.mp g0))]
          exact g_ret rfl rfl ⟨rfl, rfl⟩
      · exact absurd g (by omega)
    | succ m ih =>
      intro p B0 o7 o8 hp hb1 hb2 hb3 hb4 hx
      have hpS : (p : Int) < fS v := by omega
      have out : ∀ (B : Int × Int × Int) (o7 o8 : Option zV), (0 ≤ B.1 ∧ B.1 ≤ 1000) → (-1 ≤ B.2.1 ∧ B.2.1 ≤ 8) → (-1 ≤ B.2.2 ∧ B.2.2 ≤ 32) → (B.2.1 = -1 → B.2.2 = -1) → nxF v tu (m + 1) p B0.1 B0.2.1 B0.2.2 = nxF v tu m (p + 1) B.1 B.2.1 B.2.2 → Go L (d + 5) k_X8_nextOf 131 [some (vR 137), some (vI tu), some (vI w), some (vI B.2.1), some (vI B.2.2), some (vI B.1), some (vI p), o7, o8] [] I (fun r J => r = some (vI (nxA v tu w)) ∧ J = I) := by
        intro B o7 o8 c1 c2 c3 c4 c5
        refine g_l 134 rfl rfl ?_
        refine g_goto rfl ?_
        exact ih (p + 1) B _ _ (by omega) c1 c2 c3 c4 (hx.trans c5)
      have inner : cgP v p → ∀ (k c : Nat) (B : Int × Int × Int) (o8 : Option zV), c + k = 4 * fN v → (0 ≤ B.1 ∧ B.1 ≤ 1000) → (-1 ≤ B.2.1 ∧ B.2.1 ≤ 8) → (-1 ≤ B.2.2 ∧ B.2.2 ≤ 32) → (B.2.1 = -1 → B.2.2 = -1) → nfF v p tu (4 * fN v) 0 B0 = nfF v p tu k c B → Go L (d + 5) k_X8_nextOf 25 [some (vR 137), some (vI tu), some (vI w), some (vI B.2.1), some (vI B.2.2), some (vI B.1), some (vI p), some (vI c), o8] [] I (fun r J => r = some (vI (nxA v tu w)) ∧ J = I) := by
        intro hcg k
        induction k with
        | zero =>
          intro c B o8 hc c1 c2 c3 c4 c5
          have e : nxF v tu (m + 1) p B0.1 B0.2.1 B0.2.2 = nxF v tu m (p + 1) B.1 B.2.1 B.2.2 := by
            have c5 : nfF v p tu (4 * fN v) 0 B0 = B := c5
            rw [nfF_st hb1.2 hcg] at c5
            rw [nxF, ← c5]
            by_cases hi : icA v tu p < B0.1
            · rw [if_pos hi, if_pos hi]
            · rw [if_neg hi, if_neg hi]
          refine g_l 27 rfl rfl ?_
          refine g_p 28 rfl rfl ?_
          refine g_l 29 rfl rfl ?_
          refine g_callE rfl (m_many hA) ?_ (hr := rcvM rfl)
          refine g_p 33 rfl rfl ?_
          refine g_ic_ge rfl (by omega) (by omega) (fun g => ?_) (fun g => ?_)
          · exact out B _ _ c1 c2 c3 c4 e
          · exact absurd g (by omega)
        | succ k ih2 =>
          intro c B o8 hc c1 c2 c3 c4 c5
          have ed : (c : Int) / 4 = ((c / 4 : Nat) : Int) := by omega
          have hpl := pl_8 ho ((c / 4 : Nat) : Int)
          have had := adA_rng v p c
          have c5 : nfF v p tu (4 * fN v) 0 B0 = nfF v p tu k (c + 1) (if ((c % 4 = 0 ∨ tu = 1) ∧ frP v ((c / 4 : Nat) : Int)) ∧ adA v p c < B.1 then (adA v p c, (p : Int), (c : Int)) else B) := c5
          have skip : ∀ o8, ¬ (((c % 4 = 0 ∨ tu = 1) ∧ frP v ((c / 4 : Nat) : Int)) ∧ adA v p c < B.1) → Go L (d + 5) k_X8_nextOf 125 [some (vR 137), some (vI tu), some (vI w), some (vI B.2.1), some (vI B.2.2), some (vI B.1), some (vI p), some (vI c), o8] [] I (fun r J => r = some (vI (nxA v tu w)) ∧ J = I) := fun o8 hno => by
            rw [if_neg hno] at c5
            refine g_l 128 rfl rfl ?_
            refine g_goto rfl ?_
            exact ih2 (c + 1) B _ (by omega) c1 c2 c3 c4 c5
          have take : (c % 4 = 0 ∨ tu = 1) ∧ frP v ((c / 4 : Nat) : Int) → Go L (d + 5) k_X8_nextOf 69 [some (vR 137), some (vI tu), some (vI w), some (vI B.2.1), some (vI B.2.2), some (vI B.1), some (vI p), some (vI c), o8] [] I (fun r J => r = some (vI (nxA v tu w)) ∧ J = I) := fun hy => by
            refine g_l 70 rfl rfl ?_
            refine g_l 72 rfl rfl ?_
            refine g_l 74 rfl rfl ?_
            refine g_callE rfl (m_gain hA ho hpS (by omega)) ?_ (hr := rcvM rfl)
            refine g_l 79 rfl rfl ?_
            refine g_l 81 rfl rfl ?_
            refine g_l 83 rfl rfl ?_
            refine g_ic_ge rfl (by omega) (by omega) (fun g1 => ?_) (fun g1 => ?_)
            · refine g_l 92 rfl rfl ?_
              refine g_l 93 rfl rfl ?_
              refine g_l 95 rfl rfl ?_
              refine g_l 97 rfl rfl ?_
              refine g_ic_ge rfl (by omega) (by omega) (fun g2 => ?_) (fun g2 => ?_)
              · refine g_l 107 rfl rfl ?_
                refine g_l 109 rfl rfl ?_
                refine g_l 111 rfl rfl ?_
                refine g_l 113 rfl rfl ?_
                refine g_ic_ge rfl (by omega) (by omega) (fun g3 => ?_) (fun g3 => ?_)
                · refine g_l 123 rfl rfl ?_
                  refine g_l 125 rfl rfl ?_
                  exact skip _ (fun z => absurd z.2 (by omega))
                · exact absurd g1 g3
              · exact absurd g1 g2
            · refine g_l 88 rfl rfl ?_
              refine g_goto rfl ?_
              refine g_l 93 rfl rfl ?_
              refine g_l 95 rfl rfl ?_
              refine g_l 97 rfl rfl ?_
              refine g_ic_ge rfl (by omega) (by omega) (fun g2 => ?_) (fun g2 => ?_)
              · exact absurd g2 g1
              · refine g_l 102 rfl rfl ?_
                refine g_goto rfl ?_
                refine g_l 109 rfl rfl ?_
                refine g_l 111 rfl rfl ?_
                refine g_l 113 rfl rfl ?_
                refine g_ic_ge rfl (by omega) (by omega) (fun g3 => ?_) (fun g3 => ?_)
                · exact absurd g3 g1
                · rw [if_pos ⟨hy, by omega⟩] at c5
                  refine g_l 118 rfl rfl ?_
                  refine g_goto rfl ?_
                  refine g_l 125 rfl rfl ?_
                  refine g_l 128 rfl rfl ?_
                  refine g_goto rfl ?_
                  exact ih2 (c + 1) (adA v p c, (p : Int), (c : Int)) _ (by omega) ⟨show 0 ≤ adA v p c by omega, show adA v p c ≤ 1000 by omega⟩ ⟨show -1 ≤ (p : Int) by omega, show (p : Int) ≤ 8 by omega⟩ ⟨show -1 ≤ (c : Int) by omega, show (c : Int) ≤ 32 by omega⟩ (fun z => absurd z (by show ¬ (p : Int) = -1; omega)) c5
          refine g_l 27 rfl rfl ?_
          refine g_p 28 rfl rfl ?_
          refine g_l 29 rfl rfl ?_
          refine g_callE rfl (m_many hA) ?_ (hr := rcvM rfl)
          refine g_p 33 rfl rfl ?_
          refine g_ic_ge rfl (by omega) (by omega) (fun g => ?_) (fun g => ?_)
          · exact absurd g (by omega)
          · refine g_l 37 rfl rfl ?_
            refine g_l 39 rfl rfl ?_
            refine g_callE rfl (m_isOpen hA ho hpS) ?_ (hr := rcvM rfl)
            rw [b2c_1 hcg]
            refine g_if_eq rfl (by omega) (fun g1 => ?_) (fun g1 => ?_)
            · exact absurd g1 (by decide)
            · refine g_l 46 rfl rfl ?_
              refine g_l 48 rfl rfl ?_
              refine g_p 49 rfl rfl ?_
              refine g_div 50 rfl (by omega) (by omega) ?_
              rw [ed]
              refine g_callE rfl (m_placeOf hA ho (by omega)) ?_ (hr := rcvM rfl)
              refine g_p 54 rfl rfl ?_
              refine g_ic_ne rfl (by omega) (by omega) (fun g2 => ?_) (fun g2 => ?_)
              · exact skip _ (fun z => g2 z.1.2)
              · have g2 := Decidable.not_not.mp g2
                refine g_l 59 rfl rfl ?_
                refine g_p 60 rfl rfl ?_
                refine g_rem 61 rfl (by omega) (by omega) ?_
                refine g_if_eq rfl (by omega) (fun g3 => ?_) (fun g3 => ?_)
                · exact take ⟨Or.inl (by omega), g2⟩
                · refine g_l 65 rfl rfl ?_
                  refine g_p 66 rfl rfl ?_
                  refine g_ic_ne rfl (by omega) (by omega) (fun g4 => ?_) (fun g4 => ?_)
                  · exact skip _ (fun z => by
                      rcases z.1.1 with z | z
                      · exact g3 (by omega)
                      · exact g4 z)
                  · exact take ⟨Or.inr (Decidable.not_not.mp g4), g2⟩
      refine g_l 15 rfl rfl ?_
      refine g_l 16 rfl rfl ?_
      refine g_callE rfl (m_places hA) ?_ (hr := rcvM rfl)
      refine g_ic_ge rfl (by omega) (by omega) (fun g => ?_) (fun g => ?_)
      · exact absurd g (by omega)
      · refine g_p 23 rfl rfl ?_
        refine g_l 25 rfl rfl ?_
        by_cases hcg : cgP v p
        · exact inner hcg (4 * fN v) 0 B0 _ (by omega) hb1 hb2 hb3 hb4 rfl
        · have e1 : ctA v tu p = -1 := if_neg hcg
          have e : nxF v tu (m + 1) p B0.1 B0.2.1 B0.2.2 = nxF v tu m (p + 1) B0.1 B0.2.1 B0.2.2 := by
            rw [nxF, if_neg]
            unfold icA
            rw [if_pos e1]
            omega
          refine g_l 27 rfl rfl ?_
          refine g_p 28 rfl rfl ?_
          refine g_l 29 rfl rfl ?_
          refine g_callE rfl (m_many hA) ?_ (hr := rcvM rfl)
          refine g_p 33 rfl rfl ?_
          refine g_ic_ge rfl (by omega) (by omega) (fun g1 => ?_) (fun g1 => ?_)
          · exact out B0 _ _ hb1 hb2 hb3 hb4 e
          · refine g_l 37 rfl rfl ?_
            refine g_l 39 rfl rfl ?_
            refine g_callE rfl (m_isOpen hA ho hpS) ?_ (hr := rcvM rfl)
            rw [b2c_0 hcg]
            refine g_if_eq rfl (by omega) (fun g2 => ?_) (fun g2 => ?_)
            · exact out B0 _ _ hb1 hb2 hb3 hb4 e
            · exact absurd rfl g2
  show Go L (d + 5) k_X8_nextOf 0 [some (vR 137), some (vI tu), some (vI w), none, none, none, none, none, none] [] I _
  refine g_p 1 rfl rfl ?_
  refine g_l 2 rfl rfl ?_
  refine g_p 3 rfl rfl ?_
  refine g_l 5 rfl rfl ?_
  refine g_p 8 rfl rfl ?_
  refine g_l 10 rfl rfl ?_
  refine g_p 11 rfl rfl ?_
  refine g_l 13 rfl rfl ?_
  exact key (fS v).toNat 0 (1000, -1, -1) none none (by omega) ⟨by decide, by decide⟩ ⟨by decide, by decide⟩ ⟨by decide, by decide⟩ (fun _ => rfl) rfl
theorem m_next {tu w : Int} (h : MI I v hs hn ct tx tl) (ht : rng tu) (hw : rng w) : Ct L (d + 6) k_X8_next [vR 137, vI tu, vI w] I (PN I (qNext v tu w) v hs hn ct tx tl) := by
  have b1 := b2i_r (0 ≤ tu ∧ tu ≤ 1)
  have b2 := b2i_r (0 ≤ w ∧ w ≤ 2)
  have bad : ¬ ((tu = 0 ∨ tu = 1) ∧ 0 ≤ w ∧ w < 3) → Go L (d + 6) k_X8_next 31 [some (vR 137), some (vI tu), some (vI w)] [] I (PN I (qNext v tu w) v hs hn ct tx tl) := fun hno => by
    refine g_l 32 rfl rfl ?_
    refine g_p 34 rfl rfl ?_
    unfold qNext
    rw [if_neg hno]
    refine g_call rfl (m_refuse (Or.inl rfl) h) (fun r J hJ => ?_) (hr := rcvM rfl)
    obtain ⟨rfl, hJ⟩ := hJ
    exact g_ret rfl rfl ⟨rfl, hJ⟩
  show Go L (d + 6) k_X8_next 0 [some (vR 137), some (vI tu), some (vI w)] [] I _
  refine g_l 1 rfl rfl ?_
  refine g_i2l 2 rfl (by omega) ?_
  refine g_lc0 3 rfl ?_
  refine g_lc1 4 rfl ?_
  refine g_callE rfl (m_in (by omega) (by decide) (by decide)) ?_
  refine g_if_eq rfl (by omega) (fun g1 => ?_) (fun g1 => ?_)
  · exact bad (fun z => b2i_0 g1 (by omega))
  · have g1 := b2i_1 g1
    refine g_l 11 rfl rfl ?_
    refine g_i2l 12 rfl (by omega) ?_
    refine g_lc0 13 rfl ?_
    refine g_ld2 16 rfl ?_
    refine g_callE rfl (m_in (by omega) (by decide) (by decide)) ?_
    refine g_if_eq rfl (by omega) (fun g2 => ?_) (fun g2 => ?_)
    · exact bad (fun z => b2i_0 g2 (by omega))
    · have g2 := b2i_1 g2
      refine g_l 23 rfl rfl ?_
      refine g_l 24 rfl rfl ?_
      refine g_l 25 rfl rfl ?_
      refine g_callE rfl (m_nextOf h.1 h.2.1 (by omega) ⟨by omega, by omega⟩) ?_ (hr := rcvM rfl)
      refine g_goto rfl ?_
      unfold qNext
      rw [if_pos ⟨by omega, by omega, by omega⟩]
      exact g_ret rfl rfl ⟨rfl, h, FrM.rf⟩
end MX
