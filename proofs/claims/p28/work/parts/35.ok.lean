/-! the states stay as they should -/
def sPut (v : Nat → Int) (p k t : Int) : Int × (Nat → Int) := if (0 ≤ p ∧ p < v 9 * v 10) ∧ (0 ≤ k ∧ k < v 0) ∧ 0 ≤ t ∧ t < 4 then (if v (11 + p.toNat) = -1 ∧ pl (vc v) (v 9 * v 10) k = -1 then (adC (ek (vcel v)) (vc v) (v 9) (v 9 * v 10) p (4 * k + t), zup v (11 + p.toNat) (4 * k + t)) else (-3, v)) else (-2, v)
theorem zup_s {f : Nat → Int} {k : Nat} {x : Int} : zup f k x k = x := by simp [zup]
theorem zup_n {f : Nat → Int} {k j : Nat} {x : Int} (h : j ≠ k) : zup f k x j = f j := by simp [zup, h]
theorem OKv.pos {v : Nat → Int} (h : OKv v) : 1 ≤ v 9 * v 10 ∧ v 9 * v 10 ≤ 8 := by
  obtain ⟨-, -, ⟨a, b, c⟩, -⟩ := h
  have := Int.mul_le_mul a.1 b.1 (by omega) (by omega)
  omega
theorem ok_add {v : Nat → Int} {c : Int} (h : OKv v) (hc : rng c) : OKv (sAdd v c).2 := by
  unfold sAdd
  split
  · rename_i h8
    obtain ⟨h1, h2, h3, h4, h5⟩ := h
    have e : ∀ i, i ≠ 0 → i ≠ 1 + (v 0).toNat → vAdd v c i = v i := fun i a b => by unfold vAdd; rw [zup_n a, zup_n b]
    have e0 : vAdd v c 0 = v 0 + 1 := zup_s
    have e9 : vAdd v c 9 = v 9 := e 9 (by omega) (by omega)
    have e10 : vAdd v c 10 = v 10 := e 10 (by omega) (by omega)
    have e11 : ∀ p, vAdd v c (11 + p) = v (11 + p) := fun p => e _ (by omega) (by omega)
    refine ⟨by show 0 ≤ vAdd v c 0 ∧ vAdd v c 0 ≤ 8; rw [e0]; omega, fun j hj => ?_, ?_, fun p hp => ?_, fun p q hp hq => ?_⟩
    · show rng (vAdd v c (1 + j))
      by_cases hjv : 1 + j = 1 + (v 0).toNat
      · rw [hjv]
        unfold vAdd
        rw [zup_n (by omega), zup_s]
        exact hc
      · rw [e _ (by omega) hjv]
        exact h2 j hj
    · show tsz (vAdd v c 9) (vAdd v c 10)
      rw [e9, e10]
      exact h3
    · show -1 ≤ vAdd v c (11 + p) ∧ vAdd v c (11 + p) < 4 * vAdd v c 0 ∧ (vAdd v c 9 * vAdd v c 10 ≤ (p : Int) → vAdd v c (11 + p) = -1)
      rw [e11, e0, e9, e10]
      have := h4 p hp
      exact ⟨this.1, by omega, this.2.2⟩
    · show p ≠ q → 0 ≤ vAdd v c (11 + p) → 0 ≤ vAdd v c (11 + q) → vAdd v c (11 + p) / 4 ≠ vAdd v c (11 + q) / 4
      rw [e11, e11]
      exact h5 p q hp hq
  · exact h
theorem ok_drop {v : Nat → Int} {k : Int} (h : OKv v) : OKv (sDrop v k).2 := by
  unfold sDrop
  split
  · rename_i hk
    obtain ⟨h1, h2, h3, h4, h5⟩ := h
    have e11 : ∀ p, p < 8 → vDrop v k (11 + p) = rmv k (v (11 + p)) := fun p hp => by
      unfold vDrop
      rw [if_neg (by omega), if_neg (by omega), if_neg (by omega), if_pos (by omega)]
    refine ⟨by show 0 ≤ v 0 - 1 ∧ v 0 - 1 ≤ 8; omega, fun j hj => ?_, h3, fun p hp => ?_, fun p q hp hq hpq => ?_⟩
    · show rng (vDrop v k (1 + j))
      unfold vDrop
      rw [if_neg (by omega), if_pos (by omega)]
      split
      · have := h2 (1 + j) (by omega)
        rw [show 1 + j + 1 = 1 + (1 + j) by omega]
        exact this
      · exact h2 j hj
    · show -1 ≤ vDrop v k (11 + p) ∧ vDrop v k (11 + p) < 4 * (v 0 - 1) ∧ (v 9 * v 10 ≤ (p : Int) → vDrop v k (11 + p) = -1)
      rw [e11 p hp]
      obtain ⟨a, b, c⟩ := h4 p hp
      unfold rmv
      split
      · exact ⟨by omega, by omega, fun _ => rfl⟩
      · split
        · refine ⟨by omega, by omega, fun z => ?_⟩
          have := c z
          omega
        · exact ⟨a, by omega, c⟩
    · show 0 ≤ vDrop v k (11 + p) → 0 ≤ vDrop v k (11 + q) → vDrop v k (11 + p) / 4 ≠ vDrop v k (11 + q) / 4
      rw [e11 p hp, e11 q hq]
      have a := h5 p q hp hq hpq
      have b := h4 p hp
      have c := h4 q hq
      unfold rmv
      split
      · intro z
        omega
      · split
        · split
          · intro _ z
            omega
          · split
            · intro _ _
              have := a (by omega) (by omega)
              omega
            · intro _ _
              have := a (by omega) (by omega)
              omega
        · split
          · intro _ z
            omega
          · split
            · intro _ _
              have := a (by omega) (by omega)
              omega
            · intro y z
              exact a y z
  · exact h
theorem ok_lay {v u : Nat → Int} {w h : Int} (h1 : 0 ≤ u 0 ∧ u 0 ≤ 8) (h2 : ∀ j, j < 8 → rng (u (1 + j))) (h9 : u 9 = w) (h10 : u 10 = h) (ht : tsz w h) (h11 : ∀ p, p < 8 → u (11 + p) = -1) : OKv u := by
  refine ⟨h1, h2, by rw [h9, h10]; exact ht, fun p hp => ?_, fun p q hp hq _ z => ?_⟩
  · rw [h11 p hp]
    exact ⟨by omega, by omega, fun _ => rfl⟩
  · rw [h11 p hp] at z
    omega
theorem ok_tab {v : Nat → Int} {w h : Int} (ho : OKv v) : OKv (sTab v w h).2 := by
  unfold sTab
  split
  · rename_i ht
    refine ok_lay (v := v) (w := w) (h := h) ho.1 (fun j hj => ?_) rfl rfl ht (fun p hp => ?_)
    · show rng (vTab v w h (1 + j))
      unfold vTab
      rw [if_pos (by omega)]
      exact ho.2.1 j hj
    · show vTab v w h (11 + p) = -1
      unfold vTab
      rw [if_neg (by omega), if_neg (by omega), if_neg (by omega), if_pos (by omega)]
  · exact ho
theorem ok_set {v : Nat → Int} {p : Nat} {x : Int} (ho : OKv v) (hp : (p : Int) < v 9 * v 10) (hx : -1 ≤ x ∧ x < 4 * v 0) (hu : ∀ q, q < 8 → q ≠ p → 0 ≤ x → 0 ≤ v (11 + q) → v (11 + q) / 4 ≠ x / 4) : OKv (zup v (11 + p) x) := by
  have hpos := ho.pos
  obtain ⟨h1, h2, h3, h4, h5⟩ := ho
  have e : ∀ i, i ≠ 11 + p → zup v (11 + p) x i = v i := fun i hi => zup_n hi
  refine ⟨by rw [e 0 (by omega)]; exact h1, fun j hj => by rw [e _ (by omega)]; exact h2 j hj, by rw [e 9 (by omega), e 10 (by omega)]; exact h3, fun q hq => ?_, fun q r hq hr hqr => ?_⟩
  · rw [e 0 (by omega), e 9 (by omega), e 10 (by omega)]
    by_cases hqp : q = p
    · rw [hqp, zup_s]
      exact ⟨hx.1, hx.2, fun z => by omega⟩
    · rw [e _ (by omega)]
      exact h4 q hq
  · by_cases hqp : q = p
    · subst hqp
      rw [zup_s, e (11 + r) (by omega)]
      intro a b z
      exact hu r hr (by omega) a b z.symm
    · rw [e (11 + q) (by omega)]
      by_cases hrp : r = p
      · subst hrp
        rw [zup_s]
        intro a b
        exact hu q hq (by omega) b a
      · rw [e (11 + r) (by omega)]
        exact h5 q r hq hr hqr
theorem ok_take {v : Nat → Int} {p : Int} (ho : OKv v) : OKv (sTake v p).2 := by
  unfold sTake
  split
  · split
    · exact ho
    · have := ho.1
      exact ok_set ho (by omega) (by omega) (fun q hq hqp z => by omega)
  · exact ho
theorem plF_none {c : Nat → Int} {k : Int} : ∀ (m p : Nat), plF c k m p = -1 → ∀ j, p ≤ j → j < p + m → c j = -1 ∨ c j / 4 ≠ k
  | 0, p, _, j, h1, h2 => by omega
  | m + 1, p, h, j, h1, h2 => by
    unfold plF at h
    split at h
    · omega
    · rename_i hn
      by_cases hj : j = p
      · subst hj
        by_cases hc : c j = -1
        · exact Or.inl hc
        · exact Or.inr (fun z => hn ⟨hc, z⟩)
      · exact plF_none m (p + 1) h j (by omega) (by omega)
theorem ok_put {v : Nat → Int} {p k t : Int} (ho : OKv v) : OKv (sPut v p k t).2 := by
  unfold sPut
  split
  · rename_i hh
    split
    · rename_i hc
      have h4 := ho.2.2.2.1
      refine ok_set ho (by omega) (by omega) (fun q hq hqp hx hvq => ?_)
      by_cases hqn : (q : Int) < v 9 * v 10
      · have := plF_none _ 0 hc.2 q (by omega) (by omega)
        unfold vc at this
        omega
      · have := (h4 q hq).2.2 (by omega)
        omega
    · exact ho
  · exact ho
theorem zor_rng (x y : Int) : rng (zor x y) := by
  unfold zor
  have h1 := Int32.le_toInt (Int32.ofInt x ||| Int32.ofInt y)
  have h2 := Int32.toInt_lt (Int32.ofInt x ||| Int32.ofInt y)
  omega
theorem tq_rng (c : Int) : rng (tq c) := zor_rng _ _
theorem tqs_rng {c : Int} (hc : rng c) : ∀ t, rng (tqs c t)
  | 0 => hc
  | t + 1 => tq_rng _
theorem ctF_rng (g : Nat → Int) (C lf tp : Nat) : rng (ctF g C lf tp 16) := zor_rng _ _
theorem mxF_rng : ∀ (i : Nat) (x : Int) (c : Nat → Int), i < 8 → (∀ j, j < 8 → rng (c j)) → ∀ j, j < 8 → rng ((mxF i x c).2 j)
  | 0, x, c, _, h => h
  | i + 1, x, c, hi, h => by
    unfold mxF
    refine mxF_rng i (nxt x) _ (by omega) (fun j hj => ?_)
    have hm : (nxt x / 65536 % ((i : Int) + 2)).toNat < 8 := by
      have := Int.emod_lt_of_pos (nxt x / 65536) (show 0 < (i : Int) + 2 by omega)
      omega
    unfold zup
    split
    · exact h _ (by omega)
    · split
      · exact h _ hm
      · exact h j hj
theorem trF_rng : ∀ (m p : Nat) (x : Int) (c : Nat → Int), p + m ≤ 8 → (∀ j, j < 8 → rng (c j)) → ∀ j, j < 8 → rng (trF m p x c j)
  | 0, p, x, c, _, h => h
  | m + 1, p, x, c, hp, h => by
    unfold trF
    refine trF_rng m (p + 1) (nxt x) _ (by omega) (fun j hj => ?_)
    unfold zup
    split
    · exact tqs_rng (h p (by omega)) _
    · exact h j hj
theorem ok_mk {v : Nat → Int} {s w h tu : Int} (ho : OKv v) : OKv (sMk v s w h tu).2 := by
  unfold sMk
  split
  · rename_i hk
    obtain ⟨hs, ht, htu⟩ := hk
    obtain ⟨wn, hn, rfl, rfl, w1, h1, n1, n8⟩ := tsz_nat ht
    have en : (wn : Int) * (hn : Int) = ((wn * hn : Nat) : Int) := (Int.natCast_mul _ _).symm
    have hc : ∀ j, j < 8 → rng (mkC v s wn hn tu j) := by
      have h0 : ∀ j, j < 8 → rng ((fun p => if p < wn * hn then ctF (pC (3 * wn + 1) (3 * hn + 1) s) (3 * wn + 1) (3 * (p % wn)) (3 * (p / wn)) 16 else v (1 + p)) j) := fun j hj => by
        show rng (if j < wn * hn then _ else _)
        split
        · exact ctF_rng _ _ _ _
        · exact ho.2.1 j hj
      intro j hj
      unfold mkC
      split
      · exact trF_rng _ 0 _ _ (by omega) (mxF_rng _ _ _ (by omega) h0) j hj
      · exact mxF_rng _ _ _ (by omega) h0 j hj
    refine ok_lay (v := v) (w := wn) (h := hn) ?_ (fun j hj => ?_) rfl rfl ht (fun p hp => ?_)
    · show 0 ≤ (wn : Int) * hn ∧ (wn : Int) * hn ≤ 8
      omega
    · show rng (vMk v s wn hn tu (1 + j))
      unfold vMk
      rw [if_neg (by omega), if_pos (by omega), show 1 + j - 1 = j by omega]
      exact hc j hj
    · show vMk v s wn hn tu (11 + p) = -1
      unfold vMk
      rw [if_neg (by omega), if_neg (by omega), if_neg (by omega), if_neg (by omega), if_pos (by omega)]
  · exact ho
theorem ok_turn {v : Nat → Int} {p t : Nat} (ho : OKv v) (hp : p < 8) : OKv (zup v (1 + p) (tqs (v (1 + p)) t)) := by
  obtain ⟨h1, h2, h3, h4, h5⟩ := ho
  have e : ∀ i, i ≠ 1 + p → zup v (1 + p) (tqs (v (1 + p)) t) i = v i := fun i hi => zup_n hi
  refine ⟨by rw [e 0 (by omega)]; exact h1, fun j hj => ?_, by rw [e 9 (by omega), e 10 (by omega)]; exact h3, fun q hq => ?_, fun q r hq hr => ?_⟩
  · by_cases hj2 : j = p
    · rw [hj2, zup_s]
      exact tqs_rng (h2 p hp) t
    · rw [e _ (by omega)]
      exact h2 j hj
  · rw [e 0 (by omega), e 9 (by omega), e 10 (by omega), e (11 + q) (by omega)]
    exact h4 q hq
  · rw [e (11 + q) (by omega), e (11 + r) (by omega)]
    exact h5 q r hq hr
