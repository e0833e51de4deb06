/-! the best next piece is the least; how many lie on the table -/
/-- a content that may come -/
abbrev alC (v : Nat → Int) (tu : Int) (j : Nat) : Prop := (j % 4 = 0 ∨ tu = 1) ∧ frP v ((j / 4 : Nat) : Int)
theorem fc_min {v : Nat → Int} {p tu : Int} : ∀ (m c : Nat) (bi b : Int), (fcF v p tu m c bi b = (bi, b) ∧ ∀ j, c ≤ j → j < c + m → alC v tu j → bi ≤ adA v p j) ∨ ∃ j0 : Nat, c ≤ j0 ∧ j0 < c + m ∧ alC v tu j0 ∧ fcF v p tu m c bi b = (adA v p j0, (j0 : Int)) ∧ adA v p j0 < bi ∧ (∀ j, c ≤ j → j < c + m → alC v tu j → adA v p j0 ≤ adA v p j) ∧ ∀ j, c ≤ j → j < j0 → alC v tu j → adA v p j0 < adA v p j
  | 0, c, bi, b => Or.inl ⟨rfl, fun j h1 h2 => absurd h2 (by omega)⟩
  | m + 1, c, bi, b => by
    rw [fcF]
    by_cases hc : ((c % 4 = 0 ∨ tu = 1) ∧ frP v ((c / 4 : Nat) : Int)) ∧ adA v p c < bi
    · rw [if_pos hc]
      rcases fc_min m (c + 1) (adA v p c) (c : Int) with ⟨h1, h2⟩ | ⟨j0, h1, h2, h3, h4, h5, h6, h7⟩
      · refine Or.inr ⟨c, by omega, by omega, hc.1, h1, hc.2, fun j a b h => ?_, fun j a b => absurd a (by omega)⟩
        by_cases hj : j = c
        · rw [hj]
          exact Int.le_refl _
        · exact h2 j (by omega) (by omega) h
      · refine Or.inr ⟨j0, by omega, by omega, h3, h4, by omega, fun j a b h => ?_, fun j a b h => ?_⟩
        · by_cases hj : j = c
          · rw [hj]
            omega
          · exact h6 j (by omega) (by omega) h
        · by_cases hj : j = c
          · rw [hj]
            exact h5
          · exact h7 j (by omega) b h
    · rw [if_neg hc]
      rcases fc_min m (c + 1) bi b with ⟨h1, h2⟩ | ⟨j0, h1, h2, h3, h4, h5, h6, h7⟩
      · refine Or.inl ⟨h1, fun j a b h => ?_⟩
        by_cases hj : j = c
        · subst hj
          exact Int.not_lt.mp (fun z => hc ⟨h, z⟩)
        · exact h2 j (by omega) (by omega) h
      · refine Or.inr ⟨j0, by omega, by omega, h3, h4, h5, fun j a b h => ?_, fun j a b h => ?_⟩
        · by_cases hj : j = c
          · subst hj
            have := Int.not_lt.mp (fun z => hc ⟨h, z⟩)
            omega
          · exact h6 j (by omega) (by omega) h
        · by_cases hj : j = c
          · subst hj
            have := Int.not_lt.mp (fun z => hc ⟨h, z⟩)
            omega
          · exact h7 j (by omega) b h
theorem nx_min {v : Nat → Int} {tu : Int} : ∀ (m p : Nat) (bi bp bc : Int), (nxF v tu m p bi bp bc = (bi, bp, bc) ∧ ∀ j, p ≤ j → j < p + m → bi ≤ icA v tu j) ∨ ∃ j0 : Nat, p ≤ j0 ∧ j0 < p + m ∧ nxF v tu m p bi bp bc = (icA v tu j0, (j0 : Int), ctA v tu j0) ∧ icA v tu j0 < bi ∧ (∀ j, p ≤ j → j < p + m → icA v tu j0 ≤ icA v tu j) ∧ ∀ j, p ≤ j → j < j0 → icA v tu j0 < icA v tu j
  | 0, p, bi, bp, bc => Or.inl ⟨rfl, fun j h1 h2 => absurd h2 (by omega)⟩
  | m + 1, p, bi, bp, bc => by
    rw [nxF]
    by_cases hc : icA v tu p < bi
    · rw [if_pos hc]
      rcases nx_min m (p + 1) (icA v tu p) (p : Int) (ctA v tu p) with ⟨h1, h2⟩ | ⟨j0, h1, h2, h4, h5, h6, h7⟩
      · refine Or.inr ⟨p, by omega, by omega, h1, hc, fun j a b => ?_, fun j a b => absurd a (by omega)⟩
        by_cases hj : j = p
        · rw [hj]
          exact Int.le_refl _
        · exact h2 j (by omega) (by omega)
      · refine Or.inr ⟨j0, by omega, by omega, h4, by omega, fun j a b => ?_, fun j a b => ?_⟩
        · by_cases hj : j = p
          · rw [hj]
            omega
          · exact h6 j (by omega) (by omega)
        · by_cases hj : j = p
          · rw [hj]
            exact h5
          · exact h7 j (by omega) b
    · rw [if_neg hc]
      rcases nx_min m (p + 1) bi bp bc with ⟨h1, h2⟩ | ⟨j0, h1, h2, h4, h5, h6, h7⟩
      · refine Or.inl ⟨h1, fun j a b => ?_⟩
        by_cases hj : j = p
        · subst hj
          omega
        · exact h2 j (by omega) (by omega)
      · refine Or.inr ⟨j0, by omega, by omega, h4, h5, fun j a b => ?_, fun j a b => ?_⟩
        · by_cases hj : j = p
          · subst hj
            omega
          · exact h6 j (by omega) (by omega)
        · by_cases hj : j = p
          · subst hj
            omega
          · exact h7 j (by omega) b
/-- the content that a place would get -/
theorem ct_min {v : Nat → Int} {tu : Int} (p : Nat) : (ctA v tu p = -1 ∧ icA v tu p = 1000 ∧ (cgP v p → ∀ j, j < 4 * fN v → ¬ alC v tu j)) ∨ ∃ c : Nat, c < 4 * fN v ∧ cgP v p ∧ alC v tu c ∧ ctA v tu p = (c : Int) ∧ icA v tu p = adA v p c ∧ ∀ j, j < 4 * fN v → alC v tu j → adA v p c ≤ adA v p j ∧ (j < c → adA v p c < adA v p j) := by
  by_cases hg : cgP v p
  · have e : ctA v tu p = (fcF v p tu (4 * fN v) 0 1000 (-1)).2 := if_pos hg
    rcases fc_min (v := v) (p := p) (tu := tu) (4 * fN v) 0 1000 (-1) with ⟨h1, h2⟩ | ⟨j0, h1, h2, h3, h4, h5, h6, h7⟩
    · rw [h1] at e
      refine Or.inl ⟨e, ?_, fun _ j hj ha => ?_⟩
      · unfold icA
        rw [if_pos e]
      · have := h2 j (by omega) (by omega) ha
        have := adA_nn v p j
        omega
    · rw [h4] at e
      have e : ctA v tu p = (j0 : Int) := e
      refine Or.inr ⟨j0, by omega, hg, h3, e, ?_, fun j hj ha => ⟨h6 j (by omega) (by omega) ha, fun hlt => h7 j (by omega) hlt ha⟩⟩
      unfold icA
      rw [e, if_neg (by omega)]
  · have e : ctA v tu p = -1 := if_neg hg
    refine Or.inl ⟨e, ?_, fun z => absurd z hg⟩
    unfold icA
    rw [if_pos e]
/-- what next() finds -/
noncomputable abbrev nxR (v : Nat → Int) (tu : Int) : Int × Int × Int := nxF v tu (fS v).toNat 0 1000 (-1) (-1)
theorem nx_all (v : Nat → Int) (tu : Int) : ((nxR v tu).2.1 = -1 ∧ ∀ p : Nat, (p : Int) < fS v → cgP v p → ∀ j, j < 4 * fN v → ¬ alC v tu j) ∨ ∃ P C : Nat, (P : Int) < fS v ∧ C < 4 * fN v ∧ cgP v P ∧ alC v tu C ∧ nxR v tu = (adA v P C, (P : Int), (C : Int)) ∧ ∀ p : Nat, (p : Int) < fS v → cgP v p → ∀ c, c < 4 * fN v → alC v tu c → adA v P C ≤ adA v p c ∧ (p < P ∨ p = P ∧ c < C → adA v P C < adA v p c) := by
  rcases nx_min (v := v) (tu := tu) (fS v).toNat 0 1000 (-1) (-1) with ⟨h1, h2⟩ | ⟨j0, h1, h2, h4, h5, h6, h7⟩
  · refine Or.inl ⟨by rw [nxR, h1], fun p hp hg j hj ha => ?_⟩
    have hi := h2 p (by omega) (by omega)
    rcases ct_min (v := v) (tu := tu) p with ⟨a1, a2, a3⟩ | ⟨c, b1, b2, b3, b4, b5, b6⟩
    · exact a3 hg j hj ha
    · have := adA_nn v p c
      omega
  · rcases ct_min (v := v) (tu := tu) j0 with ⟨a1, a2, a3⟩ | ⟨C, b1, b2, b3, b4, b5, b6⟩
    · omega
    · refine Or.inr ⟨j0, C, by omega, b1, b2, b3, by rw [nxR, h4, b4, b5], fun p hp hg c hc ha => ?_⟩
      rcases ct_min (v := v) (tu := tu) p with ⟨a1, a2, a3⟩ | ⟨c2, c1, cg, c3, c4, c5, c6⟩
      · exact absurd ha (a3 hg c hc)
      · have d1 := (c6 c hc ha).1
        have d2 := h6 p (by omega) (by omega)
        refine ⟨by omega, fun hl => ?_⟩
        rcases hl with hl | ⟨rfl, hl⟩
        · have := h7 p (by omega) hl
          omega
        · exact (b6 c hc ha).2 hl
/-- how many lie on the table -/
def lyg (v : Nat → Int) : Int := cn (vc v) (fS v)
theorem ly_sg (v : Nat → Int) : lyg v = sgF (fun p => b2c (vc v p ≠ -1)) (fS v).toNat := by
  have h := cn_sg (vc v) (fS v).toNat 0
  have z : sgF (fun p => b2c (vc v p ≠ -1)) 0 = 0 := rfl
  rw [z, Int.add_zero, Nat.zero_add] at h
  exact h
theorem ly_rng {v : Nat → Int} (ho : OKv v) : 0 ≤ lyg v ∧ lyg v ≤ fS v ∧ lyg v ≤ v 0 := by
  have hp := fS_rng ho
  have hb : ∀ P : Prop, 0 ≤ b2c P ∧ b2c P ≤ 1 := fun P => by
    rcases b2c_r P with h | h <;> omega
  have h0 := ho.1
  rw [ly_sg]
  have h1 := sgF_0 (g := fun p => b2c (vc v p ≠ -1)) (fS v).toNat (fun p _ => (hb _).1)
  have h2 := sg_mono (a := fun p => b2c (vc v p ≠ -1)) (b := fun _ => 1) (fS v).toNat (fun p _ => (hb _).2)
  have h3 := inj_cnt (P := fun p => vc v p ≠ -1) (Q := fun _ => True) (f := fun p => (vc v p / 4).toNat) (n := (fS v).toNat) (m := (v 0).toNat) (fun p hp hP => by
    have a := ho.2.2.2.1 p (by omega)
    have hP : v (11 + p) ≠ -1 := hP
    refine ⟨?_, trivial⟩
    show (v (11 + p) / 4).toNat < (v 0).toNat
    omega) (fun p q hp hq hP hQ e => by
    have a := ho.2.2.2.1 p (by omega)
    have b := ho.2.2.2.1 q (by omega)
    have c := ho.2.2.2.2 p q (by omega) (by omega)
    have hP : v (11 + p) ≠ -1 := hP
    have hQ : v (11 + q) ≠ -1 := hQ
    have e : (v (11 + p) / 4).toNat = (v (11 + q) / 4).toNat := e
    exact Classical.byContradiction (fun z => c z (by omega) (by omega) (by omega)))
  rw [sg_c] at h2
  rw [show b2c True = 1 from b2c_1 trivial, sg_c] at h3
  refine ⟨h1, by omega, by omega⟩
theorem pl_spec (c : Nat → Int) (k : Int) : ∀ (m p : Nat), (∃ j, p ≤ j ∧ j < p + m ∧ c j ≠ -1 ∧ c j / 4 = k) → plF c k m p ≠ -1
  | 0, p, ⟨j, h1, h2, _⟩ => absurd h2 (by omega)
  | m + 1, p, ⟨j, h1, h2, h3⟩ => by
    rw [plF]
    by_cases hp : c p ≠ -1 ∧ c p / 4 = k
    · rw [if_pos hp]
      omega
    · rw [if_neg hp]
      refine pl_spec c k m (p + 1) ⟨j, ?_, by omega, h3⟩
      by_cases hj : j = p
      · exact absurd (hj ▸ h3) hp
      · omega
/-- not all pieces lie there: one is free -/
theorem ly_free {v : Nat → Int} (ho : OKv v) (h : lyg v < v 0) : ∃ k, k < fN v ∧ frP v ((k : Nat) : Int) := by
  refine Classical.byContradiction (fun z => ?_)
  have hf := fS_rng ho
  have hall : ∀ k, k < fN v → pl (vc v) (fS v) ((k : Nat) : Int) ≠ -1 := fun k hk e => z ⟨k, hk, e⟩
  have hr : ∀ k, k < fN v → 0 ≤ pl (vc v) (fS v) ((k : Nat) : Int) ∧ pl (vc v) (fS v) ((k : Nat) : Int) < fS v ∧ vc v (pl (vc v) (fS v) ((k : Nat) : Int)).toNat ≠ -1 ∧ vc v (pl (vc v) (fS v) ((k : Nat) : Int)).toNat / 4 = (k : Int) := fun k hk => by
    rcases pl_rng (c := vc v) (n := fS v) (k := ((k : Nat) : Int)) (by omega) with h | h
    · exact absurd h (hall k hk)
    · exact h
  have h3 := inj_cnt (P := fun _ => True) (Q := fun p => vc v p ≠ -1) (f := fun k => (pl (vc v) (fS v) ((k : Nat) : Int)).toNat) (n := fN v) (m := (fS v).toNat) (fun k hk _ => ⟨by have := hr k hk; omega, (hr k hk).2.2.1⟩) (fun k j hk hj _ _ e => by
    have a := (hr k hk).2.2.2
    have b := (hr j hj).2.2.2
    have e : (pl (vc v) (fS v) ((k : Nat) : Int)).toNat = (pl (vc v) (fS v) ((j : Nat) : Int)).toNat := e
    rw [e] at a
    omega)
  rw [← ly_sg, sgF_cg (b := fun _ => 1) _ (fun k _ => b2c_1 trivial), sg_c] at h3
  have := fN_le ho
  omega
/-- one is free: not all lie there -/
theorem ly_less {v : Nat → Int} (ho : OKv v) {k : Nat} (hk : k < fN v) (hf : frP v ((k : Nat) : Int)) : lyg v < v 0 := by
  have hfr := fS_rng ho
  have hb : ∀ P : Prop, 0 ≤ b2c P ∧ b2c P ≤ 1 := fun P => by
    rcases b2c_r P with h | h <;> omega
  have h0 := ho.1
  have h3 := inj_cnt (P := fun p => vc v p ≠ -1) (Q := fun j => j ≠ k) (f := fun p => (vc v p / 4).toNat) (n := (fS v).toNat) (m := fN v) (fun p hp hP => by
    have a := ho.2.2.2.1 p (by omega)
    have hP : v (11 + p) ≠ -1 := hP
    have hkk : v (11 + p) / 4 ≠ (k : Int) := fun e => pl_spec (vc v) ((k : Nat) : Int) (fS v).toNat 0 ⟨p, by omega, by omega, hP, e⟩ hf
    refine ⟨?_, ?_⟩
    · show (v (11 + p) / 4).toNat < (v 0).toNat
      omega
    · show (v (11 + p) / 4).toNat ≠ k
      omega) (fun p q hp hq hP hQ e => by
    have a := ho.2.2.2.1 p (by omega)
    have b := ho.2.2.2.1 q (by omega)
    have c := ho.2.2.2.2 p q (by omega) (by omega)
    have hP : v (11 + p) ≠ -1 := hP
    have hQ : v (11 + q) ≠ -1 := hQ
    have e : (v (11 + p) / 4).toNat = (v (11 + q) / 4).toNat := e
    exact Classical.byContradiction (fun z => c z (by omega) (by omega) (by omega)))
  rw [← ly_sg] at h3
  have e : sgF (fun j => b2c (j ≠ k)) (fN v) = sgF (zup (fun _ => 1) k 0) (fN v) := sgF_cg _ (fun j _ => by
    by_cases hj : j = k
    · rw [hj, zup_s]
      exact b2c_0 (fun z => z rfl)
    · rw [zup_n hj]
      exact b2c_1 hj)
  rw [e, sgF_up, if_pos hk, sg_c] at h3
  have := fN_le ho
  omega
theorem ly_room {v : Nat → Int} (ho : OKv v) (h : lyg v < fS v) : ∃ p : Nat, (p : Int) < fS v ∧ v (11 + p) = -1 := by
  refine Classical.byContradiction (fun z => ?_)
  have hf := fS_rng ho
  have e : sgF (fun p => b2c (vc v p ≠ -1)) (fS v).toNat = sgF (fun _ => 1) (fS v).toNat := sgF_cg _ (fun p hp => b2c_1 (fun e => z ⟨p, by omega, e⟩))
  rw [ly_sg, e, sg_c] at h
  omega
theorem ly_notfull {v : Nat → Int} (ho : OKv v) {p : Nat} (hp : (p : Int) < fS v) (hv : v (11 + p) = -1) : lyg v < fS v := by
  have hb : ∀ P : Prop, 0 ≤ b2c P ∧ b2c P ≤ 1 := fun P => by
    rcases b2c_r P with h | h <;> omega
  have h2 := sg_mono (a := fun q => b2c (vc v q ≠ -1)) (b := zup (fun _ => 1) p 0) (fS v).toNat (fun q _ => by
    by_cases hq : q = p
    · rw [hq, zup_s]
      show b2c (v (11 + p) ≠ -1) ≤ 0
      rw [b2c_0 (fun z => z hv)]
      omega
    · rw [zup_n hq]
      exact (hb _).2)
  rw [← ly_sg, sgF_up, if_pos (by omega), sg_c] at h2
  have := fS_rng ho
  omega
theorem ly_pos {v : Nat → Int} (h : lyg v ≠ 0) : ∃ p : Nat, (p : Int) < fS v ∧ v (11 + p) ≠ -1 := by
  refine Classical.byContradiction (fun z => h ?_)
  rw [ly_sg]
  exact sgF_z _ (fun p hp => b2c_0 (fun e => z ⟨p, by omega, e⟩))
theorem ly_put {v : Nat → Int} {p : Nat} {x : Int} (ho : OKv v) (hp : (p : Int) < fS v) (hv : v (11 + p) = -1) (hx : x ≠ -1) : lyg (vPut v p x) = lyg v + 1 := by
  rw [ly_sg, ly_sg, (put_same v p x ho.1.2).2.2.2.2.2]
  have e : sgF (fun q => b2c (vc (vPut v p x) q ≠ -1)) (fS v).toNat = sgF (zup (fun q => b2c (vc v q ≠ -1)) p 1) (fS v).toNat := sgF_cg _ (fun q _ => by
    by_cases hq : q = p
    · rw [hq, zup_s]
      refine b2c_1 ?_
      show vPut v p x (11 + p) ≠ -1
      rw [show vPut v p x (11 + p) = x from zup_s]
      exact hx
    · rw [zup_n hq]
      refine b2c_g ?_
      show vPut v p x (11 + q) ≠ -1 ↔ v (11 + q) ≠ -1
      rw [show vPut v p x (11 + q) = v (11 + q) from zup_n (by omega)])
  rw [e, sgF_up, if_pos (by omega), show b2c (vc v p ≠ -1) = 0 from b2c_0 (fun z => z hv)]
  omega
/-- is some neighbour there -/
def bsB (o : List Bool) (w n p : Int) : Bool := (decide (nb w n p 0 ≠ -1) && o.getD (nb w n p 0).toNat false) || ((decide (nb w n p 1 ≠ -1) && o.getD (nb w n p 1).toNat false) || ((decide (nb w n p 2 ≠ -1) && o.getD (nb w n p 2).toNat false) || (decide (nb w n p 3 ≠ -1) && o.getD (nb w n p 3).toNat false)))
def conB (o : List Bool) (w : Int) (n : Nat) : Bool := !((List.range n).any (fun p => o.getD p false) && (List.range n).any (fun p => !o.getD p false)) || (List.range n).any (fun p => !o.getD p false && bsB o w n p)
theorem con_1 : ∀ a b c d e f g h : Bool, conB [a, b, c, d, e, f, g, h] 1 8 = true := by decide +kernel
theorem con_2 : ∀ a b c d e f g h : Bool, conB [a, b, c, d, e, f, g, h] 2 8 = true := by decide +kernel
theorem con_3 : ∀ a b c d e f g h : Bool, conB [a, b, c, d, e, f, g, h] 3 6 = true := by decide +kernel
theorem con_4 : ∀ a b c d e f g h : Bool, conB [a, b, c, d, e, f, g, h] 4 8 = true := by decide +kernel
/-- a table that is neither empty nor full has an empty place beside a piece -/
theorem ly_open {v : Nat → Int} (ho : OKv v) (hw : (v 9 = 1 ∧ v 10 = 8) ∨ (v 9 = 2 ∧ v 10 = 4) ∨ (v 9 = 3 ∧ v 10 = 2) ∨ (v 9 = 4 ∧ v 10 = 2)) (h : lyg v < fS v) : ∃ p : Nat, (p : Int) < fS v ∧ cgP v p := by
  obtain ⟨p0, hp0, hv0⟩ := ly_room ho h
  by_cases h0 : lyg v = 0
  · exact ⟨p0, hp0, hv0, Or.inr h0⟩
  · obtain ⟨p1, hp1, hv1⟩ := ly_pos h0
    have key : ∀ n : Nat, fS v = (n : Int) → n ≤ 8 → (∀ a b c d e f g h : Bool, conB [a, b, c, d, e, f, g, h] (v 9) n = true) → ∃ p : Nat, (p : Int) < fS v ∧ cgP v p := fun n hn h8 hc => by
      have hc := hc (decide (v 11 ≠ -1)) (decide (v 12 ≠ -1)) (decide (v 13 ≠ -1)) (decide (v 14 ≠ -1)) (decide (v 15 ≠ -1)) (decide (v 16 ≠ -1)) (decide (v 17 ≠ -1)) (decide (v 18 ≠ -1))
      have hget : ∀ j, j < 8 → [decide (v 11 ≠ -1), decide (v 12 ≠ -1), decide (v 13 ≠ -1), decide (v 14 ≠ -1), decide (v 15 ≠ -1), decide (v 16 ≠ -1), decide (v 17 ≠ -1), decide (v 18 ≠ -1)].getD j false = decide (v (11 + j) ≠ -1) := fun j hj => by
        have hjc : j = 0 ∨ j = 1 ∨ j = 2 ∨ j = 3 ∨ j = 4 ∨ j = 5 ∨ j = 6 ∨ j = 7 := by omega
        rcases hjc with rfl | rfl | rfl | rfl | rfl | rfl | rfl | rfl <;> rfl
      generalize [decide (v 11 ≠ -1), decide (v 12 ≠ -1), decide (v 13 ≠ -1), decide (v 14 ≠ -1), decide (v 15 ≠ -1), decide (v 16 ≠ -1), decide (v 17 ≠ -1), decide (v 18 ≠ -1)] = o at hc hget
      unfold conB at hc
      rw [Bool.or_eq_true, Bool.not_eq_true'] at hc
      have hany : ((List.range n).any (fun p => o.getD p false) && (List.range n).any (fun p => !o.getD p false)) = true := by
        rw [Bool.and_eq_true, List.any_eq_true, List.any_eq_true]
        refine ⟨⟨p1, List.mem_range.mpr (by omega), ?_⟩, ⟨p0, List.mem_range.mpr (by omega), ?_⟩⟩
        · rw [hget p1 (by omega)]
          exact decide_eq_true hv1
        · rw [hget p0 (by omega), Bool.not_eq_true']
          exact decide_eq_false (fun z => z hv0)
      rcases hc with hc | hc
      · rw [hany] at hc
        cases hc
      · obtain ⟨p, hpm, hpp⟩ := List.any_eq_true.mp hc
        have hp := List.mem_range.mp hpm
        rw [Bool.and_eq_true, Bool.not_eq_true', hget p (by omega)] at hpp
        have hve : v (11 + p) = -1 := Classical.byContradiction (fun z => of_decide_eq_false hpp.1 z)
        refine ⟨p, by omega, hve, Or.inl ?_⟩
        have hn2 : ∀ q : Int, (decide (nb (v 9) n p q ≠ -1) && o.getD (nb (v 9) n p q).toNat false) = true → nb (v 9) (fS v) p q ≠ -1 ∧ vc v (nb (v 9) (fS v) p q).toNat ≠ -1 := fun q hq => by
          rw [Bool.and_eq_true] at hq
          have h1 := of_decide_eq_true hq.1
          have hr := nb_rng (w := v 9) (n := fS v) (p := (p : Int)) (q := q) (fS_rng ho).2.2 (by omega) (fS_rng ho).2.1
          rw [hn] at hr ⊢
          refine ⟨h1, ?_⟩
          have h2 := hq.2
          rw [hget _ (by omega)] at h2
          exact of_decide_eq_true h2
        have hb := hpp.2
        unfold bsB at hb
        rw [Bool.or_eq_true, Bool.or_eq_true, Bool.or_eq_true] at hb
        rw [bsF, bsF, bsF, bsF]
        rcases hb with hb | hb | hb | hb
        · exact Or.inl (hn2 0 hb)
        · exact Or.inr (Or.inl (hn2 1 hb))
        · exact Or.inr (Or.inr (Or.inl (hn2 2 hb)))
        · exact Or.inr (Or.inr (Or.inr (Or.inl (hn2 3 hb))))
    rcases hw with ⟨a, b⟩ | ⟨a, b⟩ | ⟨a, b⟩ | ⟨a, b⟩
    · exact key 8 (by unfold fS; rw [a, b]; rfl) (by omega) (by rw [a]; exact con_1)
    · exact key 8 (by unfold fS; rw [a, b]; rfl) (by omega) (by rw [a]; exact con_2)
    · exact key 6 (by unfold fS; rw [a, b]; rfl) (by omega) (by rw [a]; exact con_3)
    · exact key 8 (by unfold fS; rw [a, b]; rfl) (by omega) (by rw [a]; exact con_4)
/-- no next piece: all lie there, or the table is full; and the other way round -/
theorem nx_no {v : Nat → Int} {tu : Int} (ho : OKv v) (ht : tu = 0 ∨ tu = 1) (hw : (v 9 = 1 ∧ v 10 = 8) ∨ (v 9 = 2 ∧ v 10 = 4) ∨ (v 9 = 3 ∧ v 10 = 2) ∨ (v 9 = 4 ∧ v 10 = 2)) (h : (nxR v tu).2.1 = -1) : lyg v = fS v ∨ lyg v = v 0 := by
  have hr := ly_rng ho
  refine Classical.byContradiction (fun z => ?_)
  obtain ⟨p, hp, hg⟩ := ly_open ho hw (by omega)
  obtain ⟨k, hk, hf⟩ := ly_free ho (by omega)
  rcases nx_all v tu with ⟨a, b⟩ | ⟨P, C, a1, a2, a3, a4, a5, a6⟩
  · exact b p hp hg (4 * k) (by omega) ⟨Or.inl (by omega), by rw [show 4 * k / 4 = k by omega]; exact hf⟩
  · rw [a5] at h
    have h : (P : Int) = -1 := h
    omega
theorem nx_yes {v : Nat → Int} {P C : Nat} {tu : Int} (ho : OKv v) (hP : (P : Int) < fS v) (hC : C < 4 * fN v) (hg : cgP v P) (ha : alC v tu C) : lyg v < fS v ∧ lyg v < v 0 := ⟨ly_notfull ho hP hg.1, ly_less ho (k := C / 4) (by omega) ha.2⟩
/-- beside a piece, as the law says it -/
def opL (v : Nat → Int) (p : Nat) : Prop := (0 < (p : Int) % v 9 ∧ 0 ≤ v (11 + (p - 1))) ∨ ((p : Int) % v 9 < v 9 - 1 ∧ 0 ≤ v (11 + (p + 1))) ∨ (v 9 ≤ (p : Int) ∧ 0 ≤ v (11 + ((p : Int) - v 9).toNat)) ∨ ((p : Int) + v 9 < fS v ∧ 0 ≤ v (11 + ((p : Int) + v 9).toNat))
theorem op_bs {v : Nat → Int} (ho : OKv v) {p : Nat} (hp : (p : Int) < fS v) : opL v p ↔ bsF (vc v) (v 9) (fS v) p 4 0 := by
  have hf := fS_rng ho
  have hw := ho.2.2.1.1
  have e0 : nb (v 9) (fS v) p 0 = if v 9 ≤ (p : Int) then (p : Int) - v 9 else -1 := rfl
  have e2 : nb (v 9) (fS v) p 2 = if (p : Int) + v 9 < fS v then (p : Int) + v 9 else -1 := rfl
  have e1 : nb (v 9) (fS v) p 1 = if (p : Int) % v 9 < v 9 - 1 then (p : Int) + 1 else -1 := rfl
  have e3 : nb (v 9) (fS v) p 3 = if 0 < (p : Int) % v 9 then (p : Int) - 1 else -1 := rfl
  have k : ∀ (c : Prop) (q : Int) (x : Int) (j : Nat), (c → nb (v 9) (fS v) p q = x) → (¬ c → nb (v 9) (fS v) p q = -1) → (c → 0 ≤ x ∧ x.toNat = j) → ((c ∧ 0 ≤ v (11 + j)) ↔ (nb (v 9) (fS v) p q ≠ -1 ∧ vc v (nb (v 9) (fS v) p q).toNat ≠ -1)) := fun c q x j hc hnc hj => by
    have hq := nb_rng (w := v 9) (n := fS v) (p := (p : Int)) (q := q) hf.2.2 (by omega) hf.2.1
    by_cases h : c
    · have e := hc h
      obtain ⟨hj1, hj2⟩ := hj h
      rw [e] at hq ⊢
      rw [hj2]
      have g := (ho.2.2.2.1 j (by omega)).1
      refine ⟨fun z => ⟨by omega, ?_⟩, fun z => ⟨h, ?_⟩⟩
      · show v (11 + j) ≠ -1
        have := z.2
        omega
      · have z2 : v (11 + j) ≠ -1 := z.2
        omega
    · rw [hnc h]
      exact ⟨fun z => absurd z.1 h, fun z => absurd rfl z.1⟩
  have hp0 : 0 < (p : Int) % v 9 → 1 ≤ p := fun h => by
    refine Nat.pos_of_ne_zero (fun z => ?_)
    rw [z, Int.natCast_zero, Int.zero_emod] at h
    omega
  have k0 := k (v 9 ≤ (p : Int)) 0 ((p : Int) - v 9) ((p : Int) - v 9).toNat (fun h => by rw [e0, if_pos h]) (fun h => by rw [e0, if_neg h]) (fun h => ⟨by omega, rfl⟩)
  have k1 := k ((p : Int) % v 9 < v 9 - 1) 1 ((p : Int) + 1) (p + 1) (fun h => by rw [e1, if_pos h]) (fun h => by rw [e1, if_neg h]) (fun h => ⟨by omega, by omega⟩)
  have k2 := k ((p : Int) + v 9 < fS v) 2 ((p : Int) + v 9) ((p : Int) + v 9).toNat (fun h => by rw [e2, if_pos h]) (fun h => by rw [e2, if_neg h]) (fun h => ⟨by omega, rfl⟩)
  have k3 := k (0 < (p : Int) % v 9) 3 ((p : Int) - 1) (p - 1) (fun h => by rw [e3, if_pos h]) (fun h => by rw [e3, if_neg h]) (fun h => by
    have := hp0 h
    exact ⟨by omega, by omega⟩)
  unfold opL
  rw [k0, k1, k2, k3, bsF, bsF, bsF, bsF, bsF]
  show (_ ∨ _ ∨ _ ∨ _) ↔ _
  constructor
  · rintro (h | h | h | h)
    · exact Or.inr (Or.inr (Or.inr (Or.inl h)))
    · exact Or.inr (Or.inl h)
    · exact Or.inl h
    · exact Or.inr (Or.inr (Or.inl h))
  · rintro (h | h | h | h | h)
    · exact Or.inr (Or.inr (Or.inl h))
    · exact Or.inr (Or.inl h)
    · exact Or.inr (Or.inr (Or.inr h))
    · exact Or.inl h
    · exact absurd h id
