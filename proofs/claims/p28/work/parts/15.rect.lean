/-! Rectangle -/
def IsR (a : Nat) : Prop := a = 5 ∨ a = 9 ∨ a = 15 ∨ a = 19 ∨ a = 23 ∨ a = 27 ∨ a = 31 ∨ a = 35 ∨ a = 77 ∨ a = 79
theorem IsR.s {L a : Nat} (h : IsR a) : (Sh0 L)[a]? = some (3, 3) ∧ (Sh0 L)[a + 1]? = some (100, 8) ∧ (R0.getD a []).getD 2 none = some (a + 1) ∧ 2 ≤ a := by
  rcases h with rfl | rfl | rfl | rfl | rfl | rfl | rfl | rfl | rfl | rfl <;> exact ⟨rfl, rfl, rfl, by decide⟩
/-- a rectangle as it always is -/
def RO (I : zI) (a : Nat) : Prop := 1 ≤ I a 0 ∧ I a 0 ≤ 8 ∧ 1 ≤ I a 1 ∧ I a 1 ≤ 8 ∧ I a 0 * I a 1 ≤ 64 ∧ ∀ p, p < 8 → -1 ≤ I (a + 1) p ∧ I (a + 1) p ≤ 31
theorem RO.pos {I : zI} {a : Nat} (h : RO I a) : 1 ≤ I a 0 * I a 1 := by
  obtain ⟨h1, -, h2, -⟩ := h
  have := Int.mul_le_mul h1 h2 (by omega) (by omega)
  omega
/-- where a piece is -/
def plF (c : Nat → Int) (k : Int) : Nat → Nat → Int
  | 0, _ => -1
  | m + 1, p => if c p ≠ -1 ∧ c p / 4 = k then (p : Int) else plF c k m (p + 1)
def pl (c : Nat → Int) (n : Int) (k : Int) : Int := plF c k n.toNat 0
theorem plF_rng {c : Nat → Int} {k : Int} : ∀ (m p : Nat), plF c k m p = -1 ∨ ((p : Int) ≤ plF c k m p ∧ plF c k m p < p + m ∧ c (plF c k m p).toNat ≠ -1 ∧ c (plF c k m p).toNat / 4 = k)
  | 0, p => Or.inl rfl
  | m + 1, p => by
    unfold plF
    split
    · rename_i h
      right
      rw [Int.toNat_natCast]
      exact ⟨by omega, by omega, h.1, h.2⟩
    · rcases plF_rng (c := c) (k := k) m (p + 1) with h | h
      · exact Or.inl h
      · right
        exact ⟨by omega, by omega, h.2.2⟩
section RC
variable {L d : Nat} {I : zI} {a : Nat}
theorem c_size (hR : IsR a) : Ev L d k_X3_size [vR a] I (some (vI (I a 0 * I a 1))) I := by
  obtain ⟨s1, s2, r1, ha⟩ := hR.s (L := L)
  show Go L d k_X3_size 0 [some (vR a)] [] I _
  refine g_l 1 rfl rfl ?_
  refine g_fi rfl s1 ⟨⟨by decide, by omega, by decide⟩, by decide⟩ ?_
  refine g_l 5 rfl rfl ?_
  refine g_fi rfl s1 ⟨⟨by decide, by omega, by decide⟩, by decide⟩ ?_
  refine g_p 9 rfl rfl ?_
  exact g_ret rfl rfl ⟨rfl, rfl⟩
theorem c_hasPlace {x : Int} (hR : IsR a) (hO : RO I a) (hx : rng x) : Ev L (d + 1) k_X3_hasPlace [vR a, vI x] I (some (vI (b2i (0 ≤ x ∧ x < I a 0 * I a 1)))) I := by
  obtain ⟨s1, s2, r1, ha⟩ := hR.s (L := L)
  obtain ⟨o1, o2, o3, o4, o5, o6⟩ := hO
  have o7 : 1 ≤ I a 0 * I a 1 := RO.pos ⟨o1, o2, o3, o4, o5, o6⟩
  show Go L (d + 1) k_X3_hasPlace 0 [some (vR a), some (vI x)] [] I _
  refine g_l 1 rfl rfl ?_
  refine g_if_lt rfl (by omega) (fun h1 => ?_) (fun h1 => ?_)
  · refine g_p 17 rfl rfl ?_
    exact g_retb rfl rfl (Or.inl rfl) ⟨by rw [← b2i_f (by omega)], rfl⟩
  · refine g_l 5 rfl rfl ?_
    refine g_l 6 rfl rfl ?_
    refine g_callE rfl (c_size hR) ?_ (hr := rcv s1 ⟨by decide, by omega, rfl⟩)
    refine g_ic_ge rfl (by omega) (by omega) (fun h2 => ?_) (fun h2 => ?_)
    · refine g_p 17 rfl rfl ?_
      exact g_retb rfl rfl (Or.inl rfl) ⟨by rw [← b2i_f (by omega)], rfl⟩
    · refine g_p 13 rfl rfl ?_
      refine g_goto rfl ?_
      exact g_retb rfl rfl (Or.inr rfl) ⟨by rw [← b2i_t (by omega)], rfl⟩
theorem c_placeOf {k : Int} (hR : IsR a) (hO : RO I a) (h8 : I a 0 * I a 1 ≤ 8) (hk : rng k) : Ev L (d + 1) k_X3_placeOf [vR a, vI k] I (some (vI (pl (I (a + 1)) (I a 0 * I a 1) k))) I := by
  obtain ⟨s1, s2, r1, ha⟩ := hR.s (L := L)
  have o7 := hO.pos
  obtain ⟨o1, o2, o3, o4, o5, o6⟩ := hO
  have key : ∀ (m p : Nat), (p : Int) + m = I a 0 * I a 1 → Go L (d + 1) k_X3_placeOf 2 [some (vR a), some (vI k), some (vI p)] [] I (fun r I' => r = some (vI (plF (I (a + 1)) k m p)) ∧ I' = I) := by
    intro m
    induction m with
    | zero =>
      intro p hp
      refine g_l 3 rfl rfl ?_
      refine g_l 4 rfl rfl ?_
      refine g_callE rfl (c_size hR) ?_ (hr := rcv s1 ⟨by decide, by omega, rfl⟩)
      refine g_ic_ge rfl (by omega) (by omega) (fun h => ?_) (fun h => ?_)
      · refine g_p 41 rfl rfl ?_
        exact g_ret rfl rfl ⟨rfl, rfl⟩
      · exact absurd h (by omega)
    | succ m ih =>
      intro p hp
      refine g_l 3 rfl rfl ?_
      refine g_l 4 rfl rfl ?_
      refine g_callE rfl (c_size hR) ?_ (hr := rcv s1 ⟨by decide, by omega, rfl⟩)
      have hc := o6 p (by omega)
      refine g_ic_ge rfl (by omega) (by omega) (fun h => ?_) (fun h => ?_)
      · exact absurd h (by omega)
      · refine g_l 11 rfl rfl ?_
        refine g_fr rfl s1 ⟨⟨by decide, by omega, by decide⟩, by decide⟩ r1 ?_
        refine g_l 15 rfl rfl ?_
        refine g_ia p rfl s2 rfl (by omega) ?_
        refine g_p 17 rfl rfl ?_
        refine g_ic_eq rfl (by omega) (by omega) (fun h1 => ?_) (fun h1 => ?_)
        · refine g_l 37 rfl rfl ?_
          refine g_goto rfl ?_
          have e : plF (I (a + 1)) k (m + 1) p = plF (I (a + 1)) k m (p + 1) := by
            rw [plF, if_neg (fun q => q.1 h1)]
          rw [e]
          exact ih (p + 1) (by omega)
        · refine g_l 21 rfl rfl ?_
          refine g_fr rfl s1 ⟨⟨by decide, by omega, by decide⟩, by decide⟩ r1 ?_
          refine g_l 25 rfl rfl ?_
          refine g_ia p rfl s2 rfl (by omega) ?_
          refine g_p 27 rfl rfl ?_
          refine g_div 28 rfl (by omega) (by omega) ?_
          refine g_l 29 rfl rfl ?_
          refine g_ic_ne rfl (by omega) (by omega) (fun h2 => ?_) (fun h2 => ?_)
          · refine g_l 37 rfl rfl ?_
            refine g_goto rfl ?_
            have e : plF (I (a + 1)) k (m + 1) p = plF (I (a + 1)) k m (p + 1) := by
              rw [plF, if_neg (fun q => h2 q.2)]
            rw [e]
            exact ih (p + 1) (by omega)
          · refine g_l 33 rfl rfl ?_
            refine g_ret rfl rfl ⟨?_, rfl⟩
            rw [plF, if_pos ⟨h1, by omega⟩]
  show Go L (d + 1) k_X3_placeOf 0 [some (vR a), some (vI k), none] [] I _
  refine g_p 1 rfl rfl ?_
  refine g_l 2 rfl rfl ?_
  exact key (I a 0 * I a 1).toNat 0 (by omega)
/-- b's first m places empty -/
def fl8 (I : zI) (b m : Nat) : zI := fun q => if q = b then (fun j => if j < m then -1 else I b j) else I q
theorem fl8_0 (I : zI) (b : Nat) : fl8 I b 0 = I := by
  funext q j
  unfold fl8
  split
  · rename_i h
    subst h
    simp
  · rfl
theorem fl8_s (I : zI) (b m : Nat) : zup2 (fl8 I b m) b m (-1) = fl8 I b (m + 1) := by
  funext q j
  unfold zup2 fl8 zup
  by_cases h : q = b
  · subst h
    by_cases h2 : j = m
    · subst h2
      simp
    · have e : (j < m + 1) = (j < m) := by
        apply propext
        omega
      simp [h2, e]
  · simp [h]
theorem c_empty (hR : IsR a) : Ev L d k_X3_empty [vR a] I none (fl8 I (a + 1) 8) := by
  obtain ⟨s1, s2, r1, ha⟩ := hR.s (L := L)
  have key : ∀ (m p : Nat), p + m = 8 → Go L d k_X3_empty 2 [some (vR a), some (vI p)] [] (fl8 I (a + 1) p) (fun r I' => r = none ∧ I' = fl8 I (a + 1) 8) := by
    intro m
    induction m with
    | zero =>
      intro p hp
      refine g_l 3 rfl rfl ?_
      refine g_p 5 rfl rfl ?_
      refine g_ic_ge rfl (by omega) (by omega) (fun h => ?_) (fun h => ?_)
      · have e : p = 8 := by omega
        subst e
        exact g_ret rfl rfl ⟨rfl, rfl⟩
      · exact absurd h (by omega)
    | succ m ih =>
      intro p hp
      refine g_l 3 rfl rfl ?_
      refine g_p 5 rfl rfl ?_
      refine g_ic_ge rfl (by omega) (by omega) (fun h => ?_) (fun h => ?_)
      · exact absurd h (by omega)
      · refine g_l 9 rfl rfl ?_
        refine g_fr rfl s1 ⟨⟨by decide, by omega, by decide⟩, by decide⟩ r1 ?_
        refine g_l 13 rfl rfl ?_
        refine g_p 14 rfl rfl ?_
        refine g_ias p rfl s2 (by omega) rfl (by omega) ?_
        rw [fl8_s]
        refine g_l 18 rfl rfl ?_
        refine g_goto rfl ?_
        exact ih (p + 1) (by omega)
  show Go L d k_X3_empty 0 [some (vR a), none] [] I _
  refine g_p 1 rfl rfl ?_
  refine g_l 2 rfl rfl ?_
  have h := key 8 0 rfl
  rw [fl8_0] at h
  exact h
theorem c_reset {w h : Int} (hR : IsR a) : Ev L (d + 1) k_X3_reset [vR a, vI w, vI h] I none (fl8 (zup2 (zup2 I a 0 w) a 1 h) (a + 1) 8) := by
  obtain ⟨s1, s2, r1, ha⟩ := hR.s (L := L)
  show Go L (d + 1) k_X3_reset 0 [some (vR a), some (vI w), some (vI h)] [] I _
  refine g_l 1 rfl rfl ?_
  refine g_l 2 rfl rfl ?_
  refine g_wi rfl s1 ⟨⟨by decide, by omega, by decide⟩, by decide⟩ ?_
  refine g_l 6 rfl rfl ?_
  refine g_l 7 rfl rfl ?_
  refine g_wi rfl s1 ⟨⟨by decide, by omega, by decide⟩, by decide⟩ ?_
  refine g_l 11 rfl rfl ?_
  refine g_callE rfl (c_empty hR) ?_ (hr := rcv s1 ⟨by decide, by omega, rfl⟩)
  exact g_ret rfl rfl ⟨rfl, rfl⟩
theorem c_rcopy {b : Nat} (hR : IsR a) (hB : IsR b) : Ev L (d + 1) k_X3_copyFrom [vR a, vR b] I none (cpN (zup2 (zup2 I a 0 (I b 0)) a 1 ((zup2 I a 0 (I b 0)) b 1)) (b + 1) (a + 1) 8) := by
  obtain ⟨s1, s2, r1, ha⟩ := hR.s (L := L)
  obtain ⟨t1, t2, t3, hb⟩ := hB.s (L := L)
  show Go L (d + 1) k_X3_copyFrom 0 [some (vR a), some (vR b)] [] I _
  refine g_l 1 rfl rfl ?_
  refine g_l 2 rfl rfl ?_
  refine g_fi rfl t1 ⟨⟨by decide, by omega, by decide⟩, by decide⟩ ?_
  refine g_wi rfl s1 ⟨⟨by decide, by omega, by decide⟩, by decide⟩ ?_
  refine g_l 9 rfl rfl ?_
  refine g_l 10 rfl rfl ?_
  refine g_fi rfl t1 ⟨⟨by decide, by omega, by decide⟩, by decide⟩ ?_
  refine g_wi rfl s1 ⟨⟨by decide, by omega, by decide⟩, by decide⟩ ?_
  refine g_l 17 rfl rfl ?_
  refine g_fr rfl t1 ⟨⟨by decide, by omega, by decide⟩, by decide⟩ t3 ?_
  refine g_p 21 rfl rfl ?_
  refine g_l 22 rfl rfl ?_
  refine g_fr rfl s1 ⟨⟨by decide, by omega, by decide⟩, by decide⟩ r1 ?_
  refine g_p 26 rfl rfl ?_
  refine g_p 28 rfl rfl ?_
  refine g_cpy (n := 8) rfl t2 s2 ⟨by omega, by omega⟩ ⟨by omega, by omega⟩ (by decide) ?_
  exact g_ret rfl rfl ⟨rfl, rfl⟩
/-- the place beside a place -/
def nb (w n p d : Int) : Int := if d = 0 then (if w ≤ p then p - w else -1) else if d = 2 then (if p + w < n then p + w else -1) else if d = 1 then (if p % w < w - 1 then p + 1 else -1) else if 0 < p % w then p - 1 else -1
theorem c_neighborOf {p q : Int} (hR : IsR a) (hO : RO I a) (hp : 0 ≤ p ∧ p < I a 0 * I a 1) (hq : 0 ≤ q ∧ q ≤ 3) : Ev L (d + 1) k_X3_neighborOf [vR a, vI p, vI q] I (some (vI (nb (I a 0) (I a 0 * I a 1) p q))) I := by
  obtain ⟨s1, s2, r1, ha⟩ := hR.s (L := L)
  have o7 := hO.pos
  obtain ⟨o1, o2, o3, o4, o5, o6⟩ := hO
  have m1 : 0 ≤ p % I a 0 ∧ p % I a 0 < I a 0 := ⟨Int.emod_nonneg _ (by omega), Int.emod_lt_of_pos _ (by omega)⟩
  show Go L (d + 1) k_X3_neighborOf 0 [some (vR a), some (vI p), some (vI q), none] [] I _
  refine g_l 1 rfl rfl ?_
  refine g_if_ne rfl (by omega) (fun h1 => ?_) (fun h1 => ?_)
  · refine g_l 24 rfl rfl ?_
    refine g_p 25 rfl rfl ?_
    refine g_ic_ne rfl (by omega) (by omega) (fun h2 => ?_) (fun h2 => ?_)
    · refine g_l 53 rfl rfl ?_
      refine g_fi rfl s1 ⟨⟨by decide, by omega, by decide⟩, by decide⟩ ?_
      refine g_if_le rfl (by omega) (fun h3 => ?_) (fun h3 => ?_)
      · exact absurd h3 (by omega)
      · refine g_l 60 rfl rfl ?_
        refine g_l 61 rfl rfl ?_
        refine g_fi rfl s1 ⟨⟨by decide, by omega, by decide⟩, by decide⟩ ?_
        refine g_rem 65 rfl (by omega) (by omega) ?_
        refine g_goto rfl ?_
        refine g_l 70 rfl rfl ?_
        refine g_l 71 rfl rfl ?_
        refine g_p 72 rfl rfl ?_
        refine g_ic_ne rfl (by omega) (by omega) (fun h4 => ?_) (fun h4 => ?_)
        · refine g_l 94 rfl rfl ?_
          refine g_if_le rfl (by omega) (fun h5 => ?_) (fun h5 => ?_)
          · refine g_p 104 rfl rfl ?_
            refine g_ret rfl rfl ⟨?_, rfl⟩
            simp [nb, h1, h2, h4, show ¬ 0 < p % I a 0 by omega]
          · refine g_l 98 rfl rfl ?_
            refine g_p 99 rfl rfl ?_
            refine g_p 100 rfl rfl ?_
            refine g_goto rfl ?_
            refine g_ret rfl rfl ⟨?_, rfl⟩
            simp [nb, h1, h2, h4, show 0 < p % I a 0 by omega]
        · refine g_l 76 rfl rfl ?_
          refine g_l 77 rfl rfl ?_
          refine g_fi rfl s1 ⟨⟨by decide, by omega, by decide⟩, by decide⟩ ?_
          refine g_p 81 rfl rfl ?_
          refine g_p 82 rfl rfl ?_
          refine g_ic_ge rfl (by omega) (by omega) (fun h5 => ?_) (fun h5 => ?_)
          · refine g_p 92 rfl rfl ?_
            refine g_ret rfl rfl ⟨?_, rfl⟩
            simp [nb, show q = 1 by omega, show ¬ p % I a 0 < I a 0 - 1 by omega]
          · refine g_l 86 rfl rfl ?_
            refine g_p 87 rfl rfl ?_
            refine g_p 88 rfl rfl ?_
            refine g_goto rfl ?_
            refine g_ret rfl rfl ⟨?_, rfl⟩
            simp [nb, show q = 1 by omega, show p % I a 0 < I a 0 - 1 by omega]
    · refine g_l 29 rfl rfl ?_
      refine g_l 30 rfl rfl ?_
      refine g_fi rfl s1 ⟨⟨by decide, by omega, by decide⟩, by decide⟩ ?_
      refine g_p 34 rfl rfl ?_
      refine g_l 35 rfl rfl ?_
      refine g_callE rfl (c_size hR) ?_ (hr := rcv s1 ⟨by decide, by omega, rfl⟩)
      refine g_ic_ge rfl (by omega) (by omega) (fun h3 => ?_) (fun h3 => ?_)
      · refine g_p 51 rfl rfl ?_
        refine g_ret rfl rfl ⟨?_, rfl⟩
        simp [nb, show q = 2 by omega, show ¬ p + I a 0 < I a 0 * I a 1 by omega]
      · refine g_l 42 rfl rfl ?_
        refine g_l 43 rfl rfl ?_
        refine g_fi rfl s1 ⟨⟨by decide, by omega, by decide⟩, by decide⟩ ?_
        refine g_p 47 rfl rfl ?_
        refine g_goto rfl ?_
        refine g_ret rfl rfl ⟨?_, rfl⟩
        simp [nb, show q = 2 by omega, show p + I a 0 < I a 0 * I a 1 by omega]
  · refine g_l 5 rfl rfl ?_
    refine g_l 6 rfl rfl ?_
    refine g_fi rfl s1 ⟨⟨by decide, by omega, by decide⟩, by decide⟩ ?_
    refine g_ic_lt rfl (by omega) (by omega) (fun h2 => ?_) (fun h2 => ?_)
    · refine g_p 22 rfl rfl ?_
      refine g_ret rfl rfl ⟨?_, rfl⟩
      simp [nb, show q = 0 by omega, show ¬ I a 0 ≤ p by omega]
    · refine g_l 13 rfl rfl ?_
      refine g_l 14 rfl rfl ?_
      refine g_fi rfl s1 ⟨⟨by decide, by omega, by decide⟩, by decide⟩ ?_
      refine g_p 18 rfl rfl ?_
      refine g_goto rfl ?_
      refine g_ret rfl rfl ⟨?_, rfl⟩
      simp [nb, show q = 0 by omega, show I a 0 ≤ p by omega]
end RC
