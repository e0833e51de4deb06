/-! State: a vector of nineteen words (the count, the cells, w, h, the contents) -/
def IsSt (a : Nat) : Prop := a = 3 ∨ a = 7 ∨ a = 13 ∨ a = 17 ∨ a = 21 ∨ a = 25 ∨ a = 29 ∨ a = 33
theorem IsSt.s {L a : Nat} (h : IsSt a) : (Sh0 L)[a]? = some (5, 3) ∧ (Sh0 L)[a + 1]? = some (100, 8) ∧ (R0.getD a []).getD 1 none = some (a + 1) ∧ (R0.getD a []).getD 2 none = some (a + 2) ∧ 2 ≤ a ∧ IsR (a + 2) := by
  rcases h with rfl | rfl | rfl | rfl | rfl | rfl | rfl | rfl <;> exact ⟨rfl, rfl, rfl, rfl, by decide, by unfold IsR; decide⟩
theorem IsSt.apart {a b : Nat} (ha : IsSt a) (hb : IsSt b) (h : a ≠ b) : a + 4 ≤ b ∨ b + 4 ≤ a := by
  unfold IsSt at ha hb
  omega
def StAt (I : zI) (a : Nat) (v : Nat → Int) : Prop := I a 0 = v 0 ∧ (∀ j, j < 8 → I (a + 1) j = v (1 + j)) ∧ I (a + 2) 0 = v 9 ∧ I (a + 2) 1 = v 10 ∧ ∀ j, j < 8 → I (a + 3) j = v (11 + j)
def OKv (v : Nat → Int) : Prop := (0 ≤ v 0 ∧ v 0 ≤ 8) ∧ (∀ j, j < 8 → rng (v (1 + j))) ∧ tsz (v 9) (v 10) ∧ (∀ p, p < 8 → -1 ≤ v (11 + p) ∧ v (11 + p) < 4 * v 0 ∧ (v 9 * v 10 ≤ (p : Int) → v (11 + p) = -1)) ∧ ∀ p q, p < 8 → q < 8 → p ≠ q → 0 ≤ v (11 + p) → 0 ≤ v (11 + q) → v (11 + p) / 4 ≠ v (11 + q) / 4
/-- nothing else has changed -/
def Fr (a n : Nat) (I I' : zI) : Prop := ∀ q, q < a ∨ a + n ≤ q → I' q = I q
theorem Fr.rf {a n : Nat} {I : zI} : Fr a n I I := fun _ _ => rfl
theorem zup2_ne {I : zI} {a k q : Nat} {x : Int} (h : q ≠ a) : zup2 I a k x q = I q := if_neg h
theorem zup2_at {I : zI} {a k : Nat} {x : Int} : zup2 I a k x a k = x := by simp [zup2, zup]
theorem zup2_an {I : zI} {a k j : Nat} {x : Int} (h : j ≠ k) : zup2 I a k x a j = I a j := by simp [zup2, zup, h]
theorem cpN_ne {I : zI} {a b n q : Nat} (h : q ≠ b) : cpN I a b n q = I q := if_neg h
theorem cpN_at {I : zI} {a b n j : Nat} (h : j < n) : cpN I a b n b j = I a j := by simp [cpN, h]
theorem fl8_ne {I : zI} {b m q : Nat} (h : q ≠ b) : fl8 I b m q = I q := if_neg h
theorem fl8_at {I : zI} {b m j : Nat} (h : j < m) : fl8 I b m b j = -1 := by simp [fl8, h]
theorem StAt.ro {I : zI} {a : Nat} {v : Nat → Int} (h : StAt I a v) (ho : OKv v) : RO I (a + 2) ∧ I (a + 2) 0 * I (a + 2) 1 ≤ 8 := by
  obtain ⟨h1, h2, h3, h4, h5⟩ := h
  obtain ⟨o1, o2, o3, o4, o5⟩ := ho
  obtain ⟨t1, t2, t3⟩ := o3
  rw [← h3, ← h4] at t3
  refine ⟨⟨by omega, by omega, by omega, by omega, by omega, fun p hp => ?_⟩, t3⟩
  have e := h5 p hp
  have e2 := o4 p hp
  show -1 ≤ I (a + 3) p ∧ I (a + 3) p ≤ 31
  omega
def vAdd (v : Nat → Int) (c : Int) : Nat → Int := zup (zup v (1 + (v 0).toNat) c) 0 (v 0 + 1)
def sAdd (v : Nat → Int) (c : Int) : Int × (Nat → Int) := if v 0 < 8 then (v 0, vAdd v c) else (-4, v)
def vDrop (v : Nat → Int) (p : Int) : Nat → Int := fun i => if i = 0 then v 0 - 1 else if i < 9 then (if p ≤ (i : Int) - 1 ∧ (i : Int) - 1 < v 0 - 1 then v (i + 1) else v i) else if i < 11 then v i else if i < 19 then rmv p (v i) else v i
def sDrop (v : Nat → Int) (p : Int) : Int × (Nat → Int) := if 0 ≤ p ∧ p < v 0 then (v 0 - 1, vDrop v p) else (-2, v)
def vTab (v : Nat → Int) (w h : Int) : Nat → Int := fun i => if i < 9 then v i else if i = 9 then w else if i = 10 then h else if i < 19 then -1 else v i
def vc (v : Nat → Int) : Nat → Int := fun p => v (11 + p)
def sTab (v : Nat → Int) (w h : Int) : Int × (Nat → Int) := if tsz w h then (cn (vc v) (v 9 * v 10), vTab v w h) else (-2, v)
def sTake (v : Nat → Int) (p : Int) : Int × (Nat → Int) := if 0 ≤ p ∧ p < v 9 * v 10 then (if v (11 + p.toNat) = -1 then (-3, v) else (v (11 + p.toNat) / 4, zup v (11 + p.toNat) (-1))) else (-2, v)
/-- behind a change of the state at a -/
def PS (a : Nat) (I : zI) (z : Int × (Nat → Int)) : Option zV → zI → Prop := fun r I' => r = some (vI z.1) ∧ StAt I' a z.2 ∧ Fr a 4 I I'
theorem cnF_eq {c c' : Nat → Int} : ∀ (m p : Nat), (∀ j, p ≤ j → j < p + m → c j = c' j) → cnF c m p = cnF c' m p
  | 0, _, _ => rfl
  | m + 1, p, h => by
    unfold cnF
    rw [h p (by omega) (by omega), cnF_eq m (p + 1) (fun j h1 h2 => h j (by omega) (by omega))]
theorem plF_eq {c c' : Nat → Int} {k : Int} : ∀ (m p : Nat), (∀ j, p ≤ j → j < p + m → c j = c' j) → plF c k m p = plF c' k m p
  | 0, _, _ => rfl
  | m + 1, p, h => by
    unfold plF
    rw [h p (by omega) (by omega), plF_eq m (p + 1) (fun j h1 h2 => h j (by omega) (by omega))]
section SV
variable {L d : Nat} {I : zI} {a : Nat} {v : Nat → Int}
theorem c_scopy {b : Nat} (hA : IsSt a) (hB : IsSt b) (hab : a ≠ b) : Ct L (d + 2) k_X5_copyFrom [vR a, vR b] I (fun r I' => r = none ∧ (∀ v, StAt I b v → StAt I' a v) ∧ Fr a 4 I I') := by
  obtain ⟨s1, s2, r1, r2, ha, hRa⟩ := hA.s (L := L)
  obtain ⟨t1, t2, t3, t4, hb, hRb⟩ := hB.s (L := L)
  have hap := hA.apart hB hab
  show Go L (d + 2) k_X5_copyFrom 0 [some (vR a), some (vR b)] [] I _
  refine g_l 1 rfl rfl ?_
  refine g_l 2 rfl rfl ?_
  refine g_fi rfl t1 ⟨⟨by decide, by omega, by decide⟩, by decide⟩ ?_
  refine g_wi rfl s1 ⟨⟨by decide, by omega, by decide⟩, by decide⟩ ?_
  refine g_l 9 rfl rfl ?_
  refine g_fr rfl t1 ⟨⟨by decide, by omega, by decide⟩, by decide⟩ t3 ?_
  refine g_p 13 rfl rfl ?_
  refine g_l 14 rfl rfl ?_
  refine g_fr rfl s1 ⟨⟨by decide, by omega, by decide⟩, by decide⟩ r1 ?_
  refine g_p 18 rfl rfl ?_
  refine g_p 20 rfl rfl ?_
  refine g_cpy (n := 8) rfl t2 s2 ⟨by omega, by omega⟩ ⟨by omega, by omega⟩ (by decide) ?_
  refine g_l 24 rfl rfl ?_
  refine g_fr rfl s1 ⟨⟨by decide, by omega, by decide⟩, by decide⟩ r2 ?_
  refine g_l 28 rfl rfl ?_
  refine g_fr rfl t1 ⟨⟨by decide, by omega, by decide⟩, by decide⟩ t4 ?_
  refine g_callE rfl (c_rcopy hRa hRb) ?_ (hr := rcv (hRa.s (L := L)).1 ⟨by decide, by omega, rfl⟩)
  refine g_ret rfl rfl ⟨rfl, fun v h => ?_, fun q hq => ?_⟩
  · obtain ⟨h1, h2, h3, h4, h5⟩ := h
    refine ⟨?_, fun j hj => ?_, ?_, ?_, fun j hj => ?_⟩
    · rw [cpN_ne (by omega), zup2_ne (by omega), zup2_ne (by omega), cpN_ne (by omega), zup2_at, h1]
    · rw [cpN_ne (by omega), zup2_ne (by omega), zup2_ne (by omega), cpN_at hj, zup2_ne (by omega), h2 j hj]
    · rw [cpN_ne (by omega), zup2_an (by omega), zup2_at, cpN_ne (by omega), zup2_ne (by omega), h3]
    · rw [cpN_ne (by omega), zup2_at, zup2_ne (by omega), cpN_ne (by omega), zup2_ne (by omega), h4]
    · show cpN _ _ (a + 2 + 1) _ (a + 2 + 1) j = _
      rw [cpN_at hj, zup2_ne (by omega), zup2_ne (by omega), cpN_ne (by omega), zup2_ne (by omega)]
      exact h5 j hj
  · rw [cpN_ne (by omega), zup2_ne (by omega), zup2_ne (by omega), cpN_ne (by omega), zup2_ne (by omega)]
theorem c_hasPiece {p : Int} (hA : IsSt a) (hv : StAt I a v) (ho : OKv v) (hp : rng p) : Ev L d k_X5_hasPiece [vR a, vI p] I (some (vI (b2i (0 ≤ p ∧ p < v 0)))) I := by
  obtain ⟨s1, s2, r1, r2, ha, hRa⟩ := hA.s (L := L)
  have h1 := hv.1
  have o1 := ho.1
  show Go L d k_X5_hasPiece 0 [some (vR a), some (vI p)] [] I _
  refine g_l 1 rfl rfl ?_
  refine g_if_lt rfl (by omega) (fun h1 => ?_) (fun h1 => ?_)
  · refine g_p 17 rfl rfl ?_
    first | exact g_retb rfl rfl (Or.inl rfl) ⟨by rw [← b2i_f (by omega)], rfl⟩ | exact g_retb rfl rfl (Or.inr rfl) ⟨by rw [← b2i_t (by omega)], rfl⟩
  · refine g_l 5 rfl rfl ?_
    refine g_l 6 rfl rfl ?_
    refine g_fi rfl s1 ⟨⟨by decide, by omega, by decide⟩, by decide⟩ ?_
    refine g_ic_ge rfl (by omega) (by omega) (fun h9 => ?_) (fun h9 => ?_)
    · refine g_p 17 rfl rfl ?_
      first | exact g_retb rfl rfl (Or.inl rfl) ⟨by rw [← b2i_f (by omega)], rfl⟩ | exact g_retb rfl rfl (Or.inr rfl) ⟨by rw [← b2i_t (by omega)], rfl⟩
    · refine g_p 13 rfl rfl ?_
      refine g_goto rfl ?_
      first | exact g_retb rfl rfl (Or.inl rfl) ⟨by rw [← b2i_f (by omega)], rfl⟩ | exact g_retb rfl rfl (Or.inr rfl) ⟨by rw [← b2i_t (by omega)], rfl⟩
theorem c_addPiece {c : Int} (hA : IsSt a) (hv : StAt I a v) (ho : OKv v) : Ct L d k_X5_addPiece [vR a, vI c] I (PS a I (sAdd v c)) := by
  obtain ⟨s1, s2, r1, r2, ha, hRa⟩ := hA.s (L := L)
  obtain ⟨h1, h2, h3, h4, h5⟩ := id hv
  have o1 := ho.1
  show Go L d k_X5_addPiece 0 [some (vR a), some (vI c)] [] I _
  refine g_l 1 rfl rfl ?_
  refine g_fi rfl s1 ⟨⟨by decide, by omega, by decide⟩, by decide⟩ ?_
  refine g_p 6 rfl rfl ?_
  refine g_ic_lt rfl (by omega) (by omega) (fun h => ?_) (fun h => ?_)
  · refine g_l 13 rfl rfl ?_
    refine g_fr rfl s1 ⟨⟨by decide, by omega, by decide⟩, by decide⟩ r1 ?_
    refine g_l 17 rfl rfl ?_
    refine g_fi rfl s1 ⟨⟨by decide, by omega, by decide⟩, by decide⟩ ?_
    refine g_l 21 rfl rfl ?_
    refine g_ias (v 0).toNat rfl s2 (by omega) (by omega) (by omega) ?_
    refine g_l 23 rfl rfl ?_
    refine g_p 24 rfl rfl ?_
    refine g_fi rfl s1 ⟨⟨by decide, by omega, by decide⟩, by decide⟩ ?_
    refine g_p 28 rfl rfl ?_
    refine g_p 29 rfl rfl ?_
    refine g_wi rfl s1 ⟨⟨by decide, by omega, by decide⟩, by decide⟩ ?_
    refine g_l 33 rfl rfl ?_
    refine g_fi rfl s1 ⟨⟨by decide, by omega, by decide⟩, by decide⟩ ?_
    refine g_p 37 rfl rfl ?_
    refine g_p 38 rfl rfl ?_
    refine g_ret rfl rfl ?_
    unfold sAdd
    rw [if_pos (by omega)]
    refine ⟨?_, ⟨?_, fun j hj => ?_, ?_, ?_, fun j hj => ?_⟩, fun q hq => ?_⟩
    · rw [zup2_at, zup2_ne (by omega), h1]
      simp
    · rw [zup2_at, zup2_ne (by omega), h1]
      simp [vAdd, zup]
    · rw [zup2_ne (by omega)]
      by_cases hj2 : j = (v 0).toNat
      · subst hj2
        rw [zup2_at]
        simp [vAdd, zup]
      · rw [zup2_an hj2, h2 j hj]
        simp only [vAdd, zup]
        rw [if_neg (by omega), if_neg (by omega)]
    · rw [zup2_ne (by omega), zup2_ne (by omega), h3]
      simp only [vAdd, zup]
      rw [if_neg (by omega), if_neg (by omega)]
    · rw [zup2_ne (by omega), zup2_ne (by omega), h4]
      simp only [vAdd, zup]
      rw [if_neg (by omega), if_neg (by omega)]
    · rw [zup2_ne (by omega), zup2_ne (by omega), h5 j hj]
      simp only [vAdd, zup]
      rw [if_neg (by omega), if_neg (by omega)]
    · rw [zup2_ne (by omega), zup2_ne (by omega)]
  · refine g_p 11 rfl rfl ?_
    refine g_ret rfl rfl ?_
    unfold sAdd
    rw [if_neg (by omega)]
    exact ⟨rfl, hv, Fr.rf⟩
end SV
