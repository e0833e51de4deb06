/-! the cost of the table; what a put adds to it -/
theorem colN : ∀ w, w < 9 → 1 ≤ w → ∀ p, p < 8 → ((0 < (p + 1) % w) ↔ p % w + 1 < w) := by decide +kernel
theorem colE : ∀ w, w < 9 → ∀ g, g < 9 → w * g ≤ 8 → 1 ≤ w → 1 ≤ g → (w * g - 1) % w + 1 = w := by decide +kernel
/-- the size as whole numbers -/
theorem fS_nat {v : Nat → Int} (ho : OKv v) : ∃ wn gn : Nat, v 9 = wn ∧ v 10 = gn ∧ (1 ≤ wn ∧ wn ≤ 8) ∧ (1 ≤ gn ∧ gn ≤ 8) ∧ 1 ≤ wn * gn ∧ wn * gn ≤ 8 ∧ fS v = ((wn * gn : Nat) : Int) := by
  obtain ⟨wn, gn, e1, e2, h1, h2, h3, h4⟩ := tsz_nat ho.2.2.1
  refine ⟨wn, gn, e1, e2, h1, h2, h3, h4, ?_⟩
  unfold fS
  rw [e1, e2]
  exact (Int.natCast_mul _ _).symm
/-- what touches at side s of place p -/
def tch (v : Nat → Int) (s : Int) (p : Nat) : Int := if v (11 + p) ≠ -1 ∧ nb (v 9) (fS v) p s ≠ -1 ∧ vc v (nb (v 9) (fS v) p s).toNat ≠ -1 then tdf (fC v) (v (11 + p)) s (vc v (nb (v 9) (fS v) p s).toNat) else 0
theorem tch_rng (v : Nat → Int) (s : Int) (p : Nat) : 0 ≤ tch v s p ∧ tch v s p ≤ 12 := by
  have := tdf_rng (fC v) (v (11 + p)) s (vc v (nb (v 9) (fS v) p s).toNat)
  unfold tch
  split <;> omega
theorem ad_tch {v : Nat → Int} {p : Nat} (h : v (11 + p) ≠ -1) : adC (fC v) (vc v) (v 9) (fS v) p (vc v p) = tch v 0 p + (tch v 1 p + (tch v 2 p + tch v 3 p)) := by
  have e : ∀ s : Nat, (if nb (v 9) (fS v) p s ≠ -1 ∧ vc v (nb (v 9) (fS v) p s).toNat ≠ -1 then tdf (fC v) (vc v p) s (vc v (nb (v 9) (fS v) p s).toNat) else 0) = tch v s p := fun s => by
    unfold tch
    by_cases hc : nb (v 9) (fS v) p s ≠ -1 ∧ vc v (nb (v 9) (fS v) p s).toNat ≠ -1
    · rw [if_pos hc, if_pos ⟨h, hc⟩]
      rfl
    · rw [if_neg hc, if_neg (fun z => hc z.2)]
  unfold adC
  rw [adF, adF, adF, adF, adF, e, e, e, e, Int.add_zero]
  rfl
theorem tch_no {v : Nat → Int} {s : Int} {p : Nat} (h : v (11 + p) = -1 ∨ nb (v 9) (fS v) p s = -1) : tch v s p = 0 := by
  unfold tch
  rw [if_neg (fun z => by rcases h with h | h; exact z.1 h; exact z.2.1 h)]
theorem tch_sw {v : Nat → Int} {s t : Int} {p q : Nat} (h1 : nb (v 9) (fS v) p s = (q : Int)) (h2 : nb (v 9) (fS v) q t = (p : Int)) (hs1 : (s + 2) % 4 = t) (ht : (t + 2) % 4 = s) : tch v s p = tch v t q := by
  unfold tch
  rw [h1, h2, Int.toNat_natCast, Int.toNat_natCast]
  by_cases hc : v (11 + p) ≠ -1 ∧ v (11 + q) ≠ -1
  · rw [if_pos ⟨hc.1, by omega, hc.2⟩, if_pos ⟨hc.2, by omega, hc.1⟩]
    unfold tdf
    rw [hs1, ht]
    exact dif_comm _ _
  · rw [if_neg (fun z => hc ⟨z.1, z.2.2⟩), if_neg (fun z => hc ⟨z.2.2, z.1⟩)]
theorem tch_31 {v : Nat → Int} (ho : OKv v) : sgF (tch v 3) (fS v).toNat = sgF (tch v 1) (fS v).toNat := by
  obtain ⟨wn, gn, e9, e10, w1, g1, n1, n8, eS⟩ := fS_nat ho
  have a3 : ∀ p : Nat, nb (v 9) (fS v) p 3 = if 0 < p % wn then (p : Int) - 1 else -1 := fun p => by
    have : nb (v 9) (fS v) p 3 = if 0 < (p : Int) % v 9 then (p : Int) - 1 else -1 := rfl
    rw [this, e9, ← Int.natCast_emod]
    by_cases hc : 0 < p % wn
    · rw [if_pos hc, if_pos (by omega)]
    · rw [if_neg hc, if_neg (by omega)]
  have a1 : ∀ p : Nat, nb (v 9) (fS v) p 1 = if p % wn + 1 < wn then (p : Int) + 1 else -1 := fun p => by
    have : nb (v 9) (fS v) p 1 = if (p : Int) % v 9 < v 9 - 1 then (p : Int) + 1 else -1 := rfl
    rw [this, e9, ← Int.natCast_emod]
    by_cases hc : p % wn + 1 < wn
    · rw [if_pos hc, if_pos (by omega)]
    · rw [if_neg hc, if_neg (by omega)]
  rw [eS, Int.toNat_natCast]
  refine sgF_eq (w := 1) n1 (fun p hp => ?_) (fun p hp => ?_) (fun p hp hq => ?_)
  · refine tch_no (Or.inr ?_)
    rw [a3, if_neg (by rw [show p = 0 by omega, Nat.zero_mod]; omega)]
  · have hc := colN wn (by omega) w1.1 p (by omega)
    by_cases h : 0 < (p + 1) % wn
    · refine tch_sw ?_ ?_ rfl rfl
      · rw [a3, if_pos h]
        omega
      · rw [a1, if_pos (hc.mp h)]
        rfl
    · rw [tch_no (Or.inr (by rw [a3, if_neg h])), tch_no (Or.inr (by rw [a1, if_neg (fun z => h (hc.mpr z))]))]
  · have hc := colE wn (by omega) gn (by omega) n8 w1.1 g1.1
    refine tch_no (Or.inr ?_)
    rw [a1, if_neg (by rw [show p = wn * gn - 1 by omega]; omega)]
theorem tch_02 {v : Nat → Int} (ho : OKv v) : sgF (tch v 0) (fS v).toNat = sgF (tch v 2) (fS v).toNat := by
  obtain ⟨wn, gn, e9, e10, w1, g1, n1, n8, eS⟩ := fS_nat ho
  have a0 : ∀ p : Nat, nb (v 9) (fS v) p 0 = if wn ≤ p then (p : Int) - wn else -1 := fun p => by
    have : nb (v 9) (fS v) p 0 = if v 9 ≤ (p : Int) then (p : Int) - v 9 else -1 := rfl
    rw [this, e9]
    by_cases hc : wn ≤ p
    · rw [if_pos hc, if_pos (by omega)]
    · rw [if_neg hc, if_neg (by omega)]
  have a2 : ∀ p : Nat, nb (v 9) (fS v) p 2 = if p + wn < wn * gn then (p : Int) + wn else -1 := fun p => by
    have : nb (v 9) (fS v) p 2 = if (p : Int) + v 9 < fS v then (p : Int) + v 9 else -1 := rfl
    rw [this, e9, eS]
    by_cases hc : p + wn < wn * gn
    · rw [if_pos hc, if_pos (by omega)]
    · rw [if_neg hc, if_neg (by omega)]
  have hle : wn ≤ wn * gn := Nat.le_mul_of_pos_right wn (by omega)
  rw [eS, Int.toNat_natCast]
  refine sgF_eq (w := wn) hle (fun p hp => ?_) (fun p hp => ?_) (fun p hp hq => ?_)
  · refine tch_no (Or.inr ?_)
    rw [a0, if_neg (by omega)]
  · refine tch_sw ?_ ?_ rfl rfl
    · rw [a0, if_pos (by omega)]
      omega
    · rw [a2, if_pos hp]
      omega
  · refine tch_no (Or.inr ?_)
    rw [a2, if_neg (by omega)]
theorem wc_sg {v : Nat → Int} : ∀ (m p : Nat), wcF (fC v) (vc v) (v 9) (fS v) m p + sgF (fun p => tch v 0 p + (tch v 1 p + (tch v 2 p + tch v 3 p))) p = sgF (fun p => tch v 0 p + (tch v 1 p + (tch v 2 p + tch v 3 p))) (p + m)
  | 0, p => by rw [wcF, Int.zero_add]; rfl
  | m + 1, p => by
    have h := wc_sg (v := v) m (p + 1)
    rw [show p + (m + 1) = p + 1 + m by omega, ← h, sgF, wcF]
    have e : (if vc v p = -1 then 0 else adC (fC v) (vc v) (v 9) (fS v) p (vc v p)) = tch v 0 p + (tch v 1 p + (tch v 2 p + tch v 3 p)) := by
      by_cases hc : vc v p = -1
      · rw [if_pos hc, tch_no (Or.inl hc), tch_no (Or.inl hc), tch_no (Or.inl hc), tch_no (Or.inl hc)]
        rfl
      · rw [if_neg hc]
        exact ad_tch hc
    rw [e]
    omega
theorem cs_sg {v : Nat → Int} (ho : OKv v) : csA v = sgF (fun p => tch v 1 p + tch v 2 p) (fS v).toNat := by
  have h := wc_sg (v := v) (fS v).toNat 0
  have h1 := tch_31 ho
  have h2 := tch_02 ho
  rw [sgF_add, sgF_add, sgF_add, sgF_add, sgF_add, sgF_add, Nat.zero_add] at h
  have z : ∀ g : Nat → Int, sgF g 0 = 0 := fun _ => rfl
  rw [z, z, z, z] at h
  unfold csA
  rw [sgF_add]
  omega
theorem nb_inv {w n p q : Nat} (hw : 1 ≤ w ∧ w ≤ 8) (hn : n ≤ 8) (hp : p < n) (hq : q < n) : (nb w n p 0 = (q : Int) ↔ nb w n q 2 = (p : Int)) ∧ (nb w n p 1 = (q : Int) ↔ nb w n q 3 = (p : Int)) := by
  have a0 : nb w n p 0 = if (w : Int) ≤ p then (p : Int) - w else -1 := rfl
  have a2 : nb w n q 2 = if (q : Int) + w < n then (q : Int) + w else -1 := rfl
  have a1 : nb w n p 1 = if (p : Int) % w < w - 1 then (p : Int) + 1 else -1 := rfl
  have a3 : nb w n q 3 = if 0 < (q : Int) % w then (q : Int) - 1 else -1 := rfl
  rw [a0, a1, a2, a3, ← Int.natCast_emod, ← Int.natCast_emod]
  constructor
  · constructor
    · intro h
      split at h
      · rw [if_pos (by omega)]
        omega
      · omega
    · intro h
      split at h
      · rw [if_pos (by omega)]
        omega
      · omega
  · constructor
    · intro h
      split at h
      · rename_i hc
        have hqp : q = p + 1 := by omega
        have := (colN w (by omega) hw.1 p (by omega)).mpr (by omega)
        rw [hqp, if_pos (by omega)]
        omega
      · omega
    · intro h
      split at h
      · rename_i hc
        have hqp : q = p + 1 := by omega
        rw [hqp] at hc
        have := (colN w (by omega) hw.1 p (by omega)).mp (by omega)
        rw [if_pos (by omega)]
        omega
      · omega
theorem nb_inv4 {w n p q : Nat} {s t : Int} (hw : 1 ≤ w ∧ w ≤ 8) (hn : n ≤ 8) (hp : p < n) (hq : q < n) (hst : (s = 0 ∧ t = 2) ∨ (s = 1 ∧ t = 3) ∨ (s = 2 ∧ t = 0) ∨ (s = 3 ∧ t = 1)) : nb w n p s = (q : Int) ↔ nb w n q t = (p : Int) := by
  rcases hst with ⟨rfl, rfl⟩ | ⟨rfl, rfl⟩ | ⟨rfl, rfl⟩ | ⟨rfl, rfl⟩
  · exact (nb_inv hw hn hp hq).1
  · exact (nb_inv hw hn hp hq).2
  · exact (nb_inv hw hn hq hp).1.symm
  · exact (nb_inv hw hn hq hp).2.symm
theorem nb_self {w n p : Nat} {s : Int} (hw : 1 ≤ w) : nb w n p s ≠ (p : Int) := by
  unfold nb
  split
  · split <;> omega
  · split
    · split <;> omega
    · split
      · split <;> omega
      · split <;> omega
/-- a state with x in place p -/
abbrev vPut (v : Nat → Int) (p : Nat) (x : Int) : Nat → Int := zup v (11 + p) x
theorem vcel_put (v : Nat → Int) (p : Nat) (x : Int) (h8 : v 0 ≤ 8) : vcel (vPut v p x) = vcel v := by
  unfold vcel
  have e0 : vPut v p x 0 = v 0 := zup_n (by omega)
  rw [e0]
  exact nrm_eq (fun j hj => zup_n (by omega))
theorem put_same (v : Nat → Int) (p : Nat) (x : Int) (h8 : v 0 ≤ 8) : vPut v p x 0 = v 0 ∧ vPut v p x 9 = v 9 ∧ vPut v p x 10 = v 10 ∧ fN (vPut v p x) = fN v ∧ fC (vPut v p x) = fC v ∧ fS (vPut v p x) = fS v := by
  have e0 : vPut v p x 0 = v 0 := zup_n (by omega)
  have e9 : vPut v p x 9 = v 9 := zup_n (by omega)
  have e10 : vPut v p x 10 = v 10 := zup_n (by omega)
  refine ⟨e0, e9, e10, ?_, ?_, ?_⟩
  · unfold fN
    rw [e0]
  · unfold fC
    rw [vcel_put v p x h8]
  · unfold fS
    rw [e9, e10]
theorem tch_up {v : Nat → Int} {p : Nat} {x : Int} {s t : Int} (ho : OKv v) (hv : v (11 + p) = -1) (hp : (p : Int) < fS v) (hst : (s = 0 ∧ t = 2) ∨ (s = 1 ∧ t = 3) ∨ (s = 2 ∧ t = 0) ∨ (s = 3 ∧ t = 1)) : sgF (tch (vPut v p x) s) (fS v).toNat = sgF (tch v s) (fS v).toNat + (tch (vPut v p x) s p + tch (vPut v p x) t p) := by
  obtain ⟨wn, gn, e9, e10, w1, g1, n1, n8, eS⟩ := fS_nat ho
  obtain ⟨-, b9, b10, -, bC, bS⟩ := put_same v p x ho.1.2
  rw [eS, Int.toNat_natCast]
  have hp2 : p < wn * gn := by omega
  have hnb : ∀ q : Nat, nb (vPut v p x 9) (fS (vPut v p x)) q s = nb wn ((wn * gn : Nat) : Int) q s := fun q => by rw [b9, bS, e9, eS]
  have hnb2 : ∀ q : Nat, nb (vPut v p x 9) (fS (vPut v p x)) q t = nb wn ((wn * gn : Nat) : Int) q t := fun q => by rw [b9, bS, e9, eS]
  have hnv : ∀ q : Nat, nb (v 9) (fS v) q s = nb wn ((wn * gn : Nat) : Int) q s := fun q => by rw [e9, eS]
  have hd : ∀ q, q < wn * gn → tch (vPut v p x) s q = tch v s q + ((if q = p then tch (vPut v p x) s p else 0) + (if nb wn ((wn * gn : Nat) : Int) q s = (p : Int) then tch (vPut v p x) s q else 0)) := fun q hq => by
    by_cases hqp : q = p
    · subst hqp
      rw [if_pos rfl, if_neg (nb_self w1.1), tch_no (v := v) (Or.inl hv)]
      omega
    · rw [if_neg hqp]
      by_cases hn : nb wn ((wn * gn : Nat) : Int) q s = (p : Int)
      · rw [if_pos hn]
        have z : tch v s q = 0 := by
          unfold tch
          rw [if_neg]
          intro z
          have z := z.2.2
          rw [hnv, hn, Int.toNat_natCast] at z
          exact z hv
        rw [z]
        omega
      · rw [if_neg hn]
        have e : tch (vPut v p x) s q = tch v s q := by
          unfold tch
          rw [hnb, hnv, bC]
          have c1 : vPut v p x (11 + q) = v (11 + q) := zup_n (by omega)
          have c2 : nb wn ((wn * gn : Nat) : Int) q s ≠ -1 → vc (vPut v p x) (nb wn ((wn * gn : Nat) : Int) q s).toNat = vc v (nb wn ((wn * gn : Nat) : Int) q s).toNat := fun hz => zup_n (fun z => by
            have hr := nb_rng (w := (wn : Int)) (n := ((wn * gn : Nat) : Int)) (p := (q : Int)) (q := s) (by omega) (by omega) (by rw [← Int.natCast_emod, Nat.mul_mod_right]; rfl)
            omega)
          rw [c1]
          by_cases hz : nb wn ((wn * gn : Nat) : Int) q s = -1
          · rw [if_neg (fun z => z.2.1 hz), if_neg (fun z => z.2.1 hz)]
          · rw [c2 hz]
        rw [e]
        omega
  rw [sgF_cg _ hd, sgF_add, sgF_add]
  have s1 : sgF (fun q => if q = p then tch (vPut v p x) s p else 0) (wn * gn) = tch (vPut v p x) s p := by
    have e : sgF (fun q => if q = p then tch (vPut v p x) s p else 0) (wn * gn) = sgF (zup (fun _ => 0) p (tch (vPut v p x) s p)) (wn * gn) := sgF_cg _ (fun q _ => by
      by_cases hqp : q = p
      · rw [hqp, zup_s, if_pos rfl]
      · rw [zup_n hqp, if_neg hqp])
    rw [e, sgF_up, if_pos hp2, sgF_z _ (fun _ _ => rfl)]
    omega
  have s2 : sgF (fun q => if nb wn ((wn * gn : Nat) : Int) q s = (p : Int) then tch (vPut v p x) s q else 0) (wn * gn) = tch (vPut v p x) t p := by
    have hr := nb_rng (w := (wn : Int)) (n := ((wn * gn : Nat) : Int)) (p := (p : Int)) (q := t) (by omega) (by omega) (by rw [← Int.natCast_emod, Nat.mul_mod_right]; rfl)
    by_cases hz : nb wn ((wn * gn : Nat) : Int) p t = -1
    · rw [tch_no (Or.inr (by rw [hnb2]; exact hz))]
      refine sgF_z _ (fun q hq => if_neg (fun hn => ?_))
      have := (nb_inv4 w1 n8 hq hp2 hst).mp hn
      omega
    · obtain ⟨q0, hq0⟩ := Int.eq_ofNat_of_zero_le (show 0 ≤ nb wn ((wn * gn : Nat) : Int) p t by omega)
      have hq0n : q0 < wn * gn := by omega
      have hb := (nb_inv4 w1 n8 hq0n hp2 hst).mpr hq0
      have e : sgF (fun q => if nb wn ((wn * gn : Nat) : Int) q s = (p : Int) then tch (vPut v p x) s q else 0) (wn * gn) = sgF (zup (fun _ => 0) q0 (tch (vPut v p x) s q0)) (wn * gn) := sgF_cg _ (fun q hq => by
        by_cases hqq : q = q0
        · rw [hqq, zup_s, if_pos hb]
        · rw [zup_n hqq, if_neg (fun hn => by
            have := (nb_inv4 w1 n8 hq hp2 hst).mp hn
            omega)])
      rw [e, sgF_up, if_pos hq0n, sgF_z _ (fun _ _ => rfl)]
      have hsw := tch_sw (v := vPut v p x) (s := s) (t := t) (p := q0) (q := p) (by rw [hnb]; exact hb) (by rw [hnb2]; exact hq0) (by omega) (by omega)
      rw [hsw]
      omega
  rw [s1, s2]
theorem adC_put {v : Nat → Int} {p : Nat} {x : Int} (ho : OKv v) (hp : (p : Int) < fS v) : adC (fC v) (vc (vPut v p x)) (v 9) (fS v) p x = adA v p x := by
  obtain ⟨wn, gn, e9, e10, w1, g1, n1, n8, eS⟩ := fS_nat ho
  have h : ∀ m q, adF (fC v) (vc (vPut v p x)) (v 9) (fS v) p x m q = adF (fC v) (vc v) (v 9) (fS v) p x m q := by
    intro m
    induction m with
    | zero => intro q; rfl
    | succ m ih =>
      intro q
      rw [adF, adF, ih (q + 1)]
      congr 1
      by_cases hz : nb (v 9) (fS v) p q = -1
      · rw [if_neg (fun z => z.1 hz), if_neg (fun z => z.1 hz)]
      · have hs := nb_self (w := wn) (n := wn * gn) (p := p) (s := (q : Int)) w1.1
        have hr := nb_rng (w := (wn : Int)) (n := ((wn * gn : Nat) : Int)) (p := (p : Int)) (q := (q : Int)) (by omega) (by omega) (by rw [← Int.natCast_emod, Nat.mul_mod_right]; rfl)
        rw [e9, eS] at hz ⊢
        have e : vc (vPut v p x) (nb wn ((wn * gn : Nat) : Int) p q).toNat = vc v (nb wn ((wn * gn : Nat) : Int) p q).toNat := zup_n (by omega)
        rw [e]
  exact h 4 0
/-- a put costs what it says -/
theorem cs_put {v : Nat → Int} {p : Nat} {x : Int} (ho : OKv v) (ho2 : OKv (vPut v p x)) (hv : v (11 + p) = -1) (hx : x ≠ -1) (hp : (p : Int) < fS v) : csA (vPut v p x) = csA v + adA v p x := by
  obtain ⟨-, b9, b10, -, bC, bS⟩ := put_same v p x ho.1.2
  have u1 := tch_up (x := x) (s := 1) (t := 3) ho hv hp (Or.inr (Or.inl ⟨rfl, rfl⟩))
  have u2 := tch_up (x := x) (s := 2) (t := 0) ho hv hp (Or.inr (Or.inr (Or.inl ⟨rfl, rfl⟩)))
  have ex : vPut v p x (11 + p) = x := zup_s
  have ha := ad_tch (v := vPut v p x) (p := p) (by rw [ex]; exact hx)
  have hv2 : vc (vPut v p x) p = x := zup_s
  rw [hv2, bC, b9, bS, adC_put ho hp] at ha
  rw [cs_sg ho2, cs_sg ho, bS, sgF_add, sgF_add, u1, u2, ha]
  omega
theorem put_take (v : Nat → Int) (p : Nat) (x : Int) (h : v (11 + p) = -1) : zup (vPut v p x) (11 + p) (-1) = v := by
  funext i
  by_cases hi : i = 11 + p
  · rw [hi, zup_s, h]
  · rw [zup_n hi, show vPut v p x i = v i from zup_n hi]
theorem adA_nn (v : Nat → Int) (p x : Int) : 0 ≤ adA v p x ∧ adA v p x ≤ 48 := adC_rng _ _ _ _ _ _
theorem wc_empty {v : Nat → Int} : ∀ m p, (∀ j, p ≤ j → j < p + m → vc v j = -1) → wcF (fC v) (vc v) (v 9) (fS v) m p = 0
  | 0, _, _ => rfl
  | m + 1, p, h => by
    rw [wcF, wc_empty m (p + 1) (fun j a b => h j (by omega) (by omega)), if_pos (h p (by omega) (by omega))]
    rfl
theorem cs_empty {v : Nat → Int} (h : ∀ j : Nat, (j : Int) < fS v → v (11 + j) = -1) : csA v = 0 := by
  unfold csA
  rw [wc_empty _ 0 (fun j _ hj => h j (by omega))]
  rfl
