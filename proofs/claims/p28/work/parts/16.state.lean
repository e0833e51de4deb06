/-! more static methods; the rest of Rectangle; State -/
/-- a colour of a piece -/
def col (c i : Int) : Int := zand (zshr c (2 * i)) 3
theorem col_rng (c i : Int) : 0 ≤ col c i ∧ col c i ≤ 3 := zand_3 _
theorem zand_mod (x : Int) : zand x 3 = x % 4 := by
  unfold zand
  rw [show (Int32.ofInt 3) = (3 : Int32) from rfl, pk_and (Int32.ofInt x) 2 (by decide +kernel), nI_toInt (by omega)]
  have e : (Int32.ofInt x).toBitVec = BitVec.ofInt 32 x := rfl
  rw [e, BitVec.toNat_ofInt]
  omega
/-- the side of a content that looks towards q -/
def sdT (v q : Int) : Int := v - v % 4 + (q - v % 4) % 4
section SS
variable {L d : Nat} {I : zI}
theorem c_isFlag {x : Int} (hx : rng x) : Ev L d k_X7_isFlag [vI x] I (some (vI (b2i (x = 0 ∨ x = 1)))) I := by
  show Go L d k_X7_isFlag 0 [some (vI x)] [] I _
  refine g_l 1 rfl rfl ?_
  refine g_if_eq rfl (by omega) (fun h1 => ?_) (fun h1 => ?_)
  · refine g_p 10 rfl rfl ?_
    refine g_goto rfl ?_
    first | exact g_retb rfl rfl (Or.inl rfl) ⟨by rw [← b2i_f (by omega)], rfl⟩ | exact g_retb rfl rfl (Or.inr rfl) ⟨by rw [← b2i_t (by omega)], rfl⟩
  · refine g_l 5 rfl rfl ?_
    refine g_p 6 rfl rfl ?_
    refine g_ic_ne rfl (by omega) (by omega) (fun h6 => ?_) (fun h6 => ?_)
    · refine g_p 14 rfl rfl ?_
      first | exact g_retb rfl rfl (Or.inl rfl) ⟨by rw [← b2i_f (by omega)], rfl⟩ | exact g_retb rfl rfl (Or.inr rfl) ⟨by rw [← b2i_t (by omega)], rfl⟩
    · refine g_p 10 rfl rfl ?_
      refine g_goto rfl ?_
      first | exact g_retb rfl rfl (Or.inl rfl) ⟨by rw [← b2i_f (by omega)], rfl⟩ | exact g_retb rfl rfl (Or.inr rfl) ⟨by rw [← b2i_t (by omega)], rfl⟩
theorem c_isLength {x : Int} (hx : rng x) : Ev L d k_X7_isLength [vI x] I (some (vI (b2i (1 ≤ x ∧ x ≤ 8)))) I := by
  show Go L d k_X7_isLength 0 [some (vI x)] [] I _
  refine g_l 1 rfl rfl ?_
  refine g_p 2 rfl rfl ?_
  refine g_ic_lt rfl (by omega) (by omega) (fun h2 => ?_) (fun h2 => ?_)
  · refine g_p 16 rfl rfl ?_
    first | exact g_retb rfl rfl (Or.inl rfl) ⟨by rw [← b2i_f (by omega)], rfl⟩ | exact g_retb rfl rfl (Or.inr rfl) ⟨by rw [← b2i_t (by omega)], rfl⟩
  · refine g_l 6 rfl rfl ?_
    refine g_p 8 rfl rfl ?_
    refine g_ic_gt rfl (by omega) (by omega) (fun h8 => ?_) (fun h8 => ?_)
    · refine g_p 16 rfl rfl ?_
      first | exact g_retb rfl rfl (Or.inl rfl) ⟨by rw [← b2i_f (by omega)], rfl⟩ | exact g_retb rfl rfl (Or.inr rfl) ⟨by rw [← b2i_t (by omega)], rfl⟩
    · refine g_p 12 rfl rfl ?_
      refine g_goto rfl ?_
      first | exact g_retb rfl rfl (Or.inl rfl) ⟨by rw [← b2i_f (by omega)], rfl⟩ | exact g_retb rfl rfl (Or.inr rfl) ⟨by rw [← b2i_t (by omega)], rfl⟩
theorem b2i_0 {b : Prop} [Decidable b] (h : b2i b = 0) : ¬ b := fun q => by
  unfold b2i at h
  rw [if_pos q] at h
  cases h
theorem b2i_1 {b : Prop} [Decidable b] (h : ¬ b2i b = 0) : b := by
  unfold b2i at h
  split at h
  · assumption
  · exact absurd rfl h
theorem b2i_r (b : Prop) [Decidable b] : 0 ≤ b2i b ∧ b2i b ≤ 1 := by
  unfold b2i
  split <;> decide
/-- a table's size -/
abbrev tsz (w h : Int) : Prop := (1 ≤ w ∧ w ≤ 8) ∧ (1 ≤ h ∧ h ≤ 8) ∧ w * h ≤ 8
theorem c_isTableSize {w h : Int} (hw : rng w) (hh : rng h) : Ev L (d + 1) k_X7_isTableSize [vI w, vI h] I (some (vI (b2i (tsz w h)))) I := by
  have r1 := b2i_r (1 ≤ w ∧ w ≤ 8)
  have r2 := b2i_r (1 ≤ h ∧ h ≤ 8)
  show Go L (d + 1) k_X7_isTableSize 0 [some (vI w), some (vI h)] [] I _
  refine g_l 1 rfl rfl ?_
  refine g_callE rfl (c_isLength hw) ?_
  refine g_if_eq rfl (by omega) (fun h1 => ?_) (fun h1 => ?_)
  · refine g_p 27 rfl rfl ?_
    exact g_retb rfl rfl (Or.inl rfl) ⟨by rw [← b2i_f (fun q => b2i_0 h1 q.1)], rfl⟩
  · have h1 := b2i_1 h1
    refine g_l 8 rfl rfl ?_
    refine g_callE rfl (c_isLength hh) ?_
    refine g_if_eq rfl (by omega) (fun h2 => ?_) (fun h2 => ?_)
    · refine g_p 27 rfl rfl ?_
      exact g_retb rfl rfl (Or.inl rfl) ⟨by rw [← b2i_f (fun q => b2i_0 h2 q.2.1)], rfl⟩
    · have h2 := b2i_1 h2
      have e1 := Int.mul_le_mul h1.2 h2.2 (by omega) (by omega)
      have e2 := Int.mul_nonneg (show 0 ≤ w by omega) (show 0 ≤ h by omega)
      refine g_l 15 rfl rfl ?_
      refine g_l 16 rfl rfl ?_
      refine g_p 17 rfl rfl ?_
      refine g_p 19 rfl rfl ?_
      refine g_ic_gt rfl (by omega) (by omega) (fun h3 => ?_) (fun h3 => ?_)
      · refine g_p 27 rfl rfl ?_
        exact g_retb rfl rfl (Or.inl rfl) ⟨by rw [← b2i_f (fun q => absurd q.2.2 (by omega))], rfl⟩
      · refine g_p 23 rfl rfl ?_
        refine g_goto rfl ?_
        exact g_retb rfl rfl (Or.inr rfl) ⟨by rw [← b2i_t ⟨h1, h2, by omega⟩], rfl⟩
theorem c_colorIn {x i : Int} : Ev L d k_X7_colorIn [vI x, vI i] I (some (vI (col x i))) I := by
  show Go L d k_X7_colorIn 0 [some (vI x), some (vI i)] [] I _
  refine g_l 1 rfl rfl ?_
  refine g_p 2 rfl rfl ?_
  refine g_l 3 rfl rfl ?_
  refine g_p 4 rfl rfl ?_
  refine g_p 5 rfl rfl ?_
  refine g_p 6 rfl rfl ?_
  refine g_p 7 rfl rfl ?_
  exact g_ret rfl rfl ⟨rfl, rfl⟩
theorem c_sideTowards {v q : Int} (hv : 0 ≤ v ∧ v ≤ 31) (hq : 0 ≤ q ∧ q ≤ 3) : Ev L d k_X7_sideTowards [vI v, vI q] I (some (vI (sdT v q))) I := by
  show Go L d k_X7_sideTowards 0 [some (vI v), some (vI q), none] [] I _
  refine g_l 1 rfl rfl ?_
  refine g_p 2 rfl rfl ?_
  refine g_rem 3 rfl (by omega) (by omega) ?_
  refine g_l 4 rfl rfl ?_
  refine g_l 5 rfl rfl ?_
  refine g_l 6 rfl rfl ?_
  refine g_p 7 rfl rfl ?_
  refine g_l 8 rfl rfl ?_
  refine g_l 9 rfl rfl ?_
  refine g_p 10 rfl rfl ?_
  refine g_p 11 rfl rfl ?_
  refine g_p 12 rfl rfl ?_
  refine g_p 13 rfl rfl ?_
  refine g_ret rfl rfl ⟨?_, rfl⟩
  rw [zand_mod]
  rfl
/-- a piece turned once, as the class does it: n cells done -/
def tqF (c : Int) : Nat → Int
  | 0 => 0
  | n + 1 => zor (tqF c n) (zshl (col c (4 * ((n / 4 : Nat) : Int) + ((n % 4 : Nat) : Int))) (2 * (4 * ((n % 4 : Nat) : Int) + 3 - ((n / 4 : Nat) : Int))))
def tq (c : Int) : Int := tqF c 16
theorem c_turnedOnce {c : Int} : Ev L (d + 1) k_X7_turnedOnce [vI c] I (some (vI (tq c))) I := by
  have key : ∀ (m y x : Nat), m + 4 * y + x = 16 → x < 4 → y < 4 → Go L (d + 1) k_X7_turnedOnce 11 [some (vI c), some (vI (tqF c (4 * y + x))), some (vI y), some (vI x)] [] I (fun r I' => r = some (vI (tq c)) ∧ I' = I) := by
    intro m
    induction m with
    | zero => intro y x h1 h2 h3; omega
    | succ m ih =>
      intro y x h1 h2 h3
      refine g_l 12 rfl rfl ?_
      refine g_p 13 rfl rfl ?_
      refine g_ic_ge rfl (by omega) (by omega) (fun h => ?_) (fun h => ?_)
      · exact absurd h (by omega)
      · refine g_l 17 rfl rfl ?_
        refine g_l 18 rfl rfl ?_
        refine g_p 19 rfl rfl ?_
        refine g_l 20 rfl rfl ?_
        refine g_p 21 rfl rfl ?_
        refine g_l 22 rfl rfl ?_
        refine g_p 23 rfl rfl ?_
        refine g_callE rfl c_colorIn ?_
        refine g_p 27 rfl rfl ?_
        refine g_p 28 rfl rfl ?_
        refine g_l 29 rfl rfl ?_
        refine g_p 30 rfl rfl ?_
        refine g_p 31 rfl rfl ?_
        refine g_p 32 rfl rfl ?_
        refine g_l 33 rfl rfl ?_
        refine g_p 34 rfl rfl ?_
        refine g_p 35 rfl rfl ?_
        refine g_p 36 rfl rfl ?_
        refine g_p 37 rfl rfl ?_
        refine g_l 38 rfl rfl ?_
        refine g_l 41 rfl rfl ?_
        refine g_goto rfl ?_
        have e : zor (tqF c (4 * y + x)) (zshl (col c (4 * (y : Int) + x)) (2 * (4 * (x : Int) + 3 - y))) = tqF c (4 * y + x + 1) := by
          rw [tqF, show (4 * y + x) / 4 = y by omega, show (4 * y + x) % 4 = x by omega]
        show Go L (d + 1) k_X7_turnedOnce 11 [some (vI c), some (vI (zor (tqF c (4 * y + x)) (zshl (col c (4 * (y : Int) + x)) (2 * (4 * (x : Int) + 3 - y))))), some (vI y), some (vI ((x : Int) + 1))] [] I _
        rw [e]
        by_cases hx : x = 3
        · subst hx
          refine g_l 12 rfl rfl ?_
          refine g_p 13 rfl rfl ?_
          refine g_ic_ge rfl (by omega) (by omega) (fun h4 => ?_) (fun h4 => ?_)
          · by_cases hy : y = 3
            · subst hy
              refine g_l 47 rfl rfl ?_
              refine g_goto rfl ?_
              refine g_l 5 rfl rfl ?_
              refine g_p 6 rfl rfl ?_
              refine g_ic_ge rfl (by omega) (by omega) (fun h5 => ?_) (fun h5 => ?_)
              · refine g_l 51 rfl rfl ?_
                exact g_ret rfl rfl ⟨rfl, rfl⟩
              · exact absurd h5 (by omega)
            · refine g_l 47 rfl rfl ?_
              refine g_goto rfl ?_
              refine g_l 5 rfl rfl ?_
              refine g_p 6 rfl rfl ?_
              refine g_ic_ge rfl (by omega) (by omega) (fun h5 => ?_) (fun h5 => ?_)
              · exact absurd h5 (by omega)
              · refine g_p 10 rfl rfl ?_
                refine g_l 11 rfl rfl ?_
                exact ih (y + 1) 0 (by omega) (by omega) (by omega)
          · exact absurd h4 (by omega)
        · exact ih y (x + 1) (by omega) (by omega) h3
  show Go L (d + 1) k_X7_turnedOnce 0 [some (vI c), none, none, none] [] I _
  refine g_p 1 rfl rfl ?_
  refine g_l 2 rfl rfl ?_
  refine g_p 3 rfl rfl ?_
  refine g_l 4 rfl rfl ?_
  refine g_l 5 rfl rfl ?_
  refine g_p 6 rfl rfl ?_
  refine g_ic_ge rfl (by omega) (by omega) (fun h => ?_) (fun h => ?_)
  · exact absurd h (by decide)
  · refine g_p 10 rfl rfl ?_
    refine g_l 11 rfl rfl ?_
    exact key 16 0 0 rfl (by decide) (by decide)
def tqs (c : Int) : Nat → Int
  | 0 => c
  | n + 1 => tq (tqs c n)
theorem c_turnedCells {c : Int} (t : Nat) (ht : t ≤ 3) : Ev L (d + 2) k_X7_turnedCells [vI c, vI t] I (some (vI (tqs c t))) I := by
  have key : ∀ (m i : Nat), i + m = t → Go L (d + 2) k_X7_turnedCells 4 [some (vI c), some (vI t), some (vI (tqs c i)), some (vI i)] [] I (fun r I' => r = some (vI (tqs c t)) ∧ I' = I) := by
    intro m
    induction m with
    | zero =>
      intro i h1
      refine g_l 5 rfl rfl ?_
      refine g_l 6 rfl rfl ?_
      refine g_ic_ge rfl (by omega) (by omega) (fun h => ?_) (fun h => ?_)
      · refine g_l 21 rfl rfl ?_
        have e : i = t := by omega
        subst e
        exact g_ret rfl rfl ⟨rfl, rfl⟩
      · exact absurd h (by omega)
    | succ m ih =>
      intro i h1
      refine g_l 5 rfl rfl ?_
      refine g_l 6 rfl rfl ?_
      refine g_ic_ge rfl (by omega) (by omega) (fun h => ?_) (fun h => ?_)
      · exact absurd h (by omega)
      · refine g_l 10 rfl rfl ?_
        refine g_callE rfl c_turnedOnce ?_
        refine g_l 14 rfl rfl ?_
        refine g_l 17 rfl rfl ?_
        refine g_goto rfl ?_
        exact ih (i + 1) (by omega)
  show Go L (d + 2) k_X7_turnedCells 0 [some (vI c), some (vI t), none, none] [] I _
  refine g_l 1 rfl rfl ?_
  refine g_l 2 rfl rfl ?_
  refine g_p 3 rfl rfl ?_
  refine g_l 4 rfl rfl ?_
  exact key t 0 (by omega)
end SS
section RC2
variable {L d : Nat} {I : zI} {a : Nat}
def tn (c : Nat → Int) (n k : Int) : Int := if pl c n k = -1 then -1 else c (pl c n k).toNat % 4
theorem pl_rng {c : Nat → Int} {n k : Int} (hn : 0 ≤ n) : pl c n k = -1 ∨ (0 ≤ pl c n k ∧ pl c n k < n ∧ c (pl c n k).toNat ≠ -1 ∧ c (pl c n k).toNat / 4 = k) := by
  unfold pl
  rcases plF_rng (c := c) (k := k) n.toNat 0 with h | h
  · exact Or.inl h
  · exact Or.inr ⟨by omega, by omega, h.2.2⟩
theorem c_turnOf {k : Int} (hR : IsR a) (hO : RO I a) (h8 : I a 0 * I a 1 ≤ 8) (hk : rng k) : Ev L (d + 2) k_X3_turnOf [vR a, vI k] I (some (vI (tn (I (a + 1)) (I a 0 * I a 1) k))) I := by
  obtain ⟨s1, s2, r1, ha⟩ := hR.s (L := L)
  have o7 := hO.pos
  have o6 := hO.2.2.2.2.2
  show Go L (d + 2) k_X3_turnOf 0 [some (vR a), some (vI k), none] [] I _
  refine g_l 1 rfl rfl ?_
  refine g_l 2 rfl rfl ?_
  refine g_callE rfl (c_placeOf hR hO h8 hk) ?_ (hr := rcv s1 ⟨by decide, by omega, rfl⟩)
  have hp := pl_rng (c := I (a + 1)) (n := I a 0 * I a 1) (k := k) (by omega)
  refine g_l 6 rfl rfl ?_
  refine g_l 7 rfl rfl ?_
  refine g_p 8 rfl rfl ?_
  refine g_ic_ne rfl (by omega) (by omega) (fun h => ?_) (fun h => ?_)
  · refine g_l 16 rfl rfl ?_
    refine g_fr rfl s1 ⟨⟨by decide, by omega, by decide⟩, by decide⟩ r1 ?_
    refine g_l 20 rfl rfl ?_
    have hp := hp.resolve_left h
    refine g_ia (pl (I (a + 1)) (I a 0 * I a 1) k).toNat rfl s2 (by omega) (by omega) ?_
    have hc := o6 (pl (I (a + 1)) (I a 0 * I a 1) k).toNat (by omega)
    have hc2 := hp.2.2.1
    refine g_p 22 rfl rfl ?_
    refine g_rem 23 rfl (by omega) (by omega) ?_
    refine g_ret rfl rfl ⟨?_, rfl⟩
    unfold tn
    rw [if_neg h]
  · refine g_p 12 rfl rfl ?_
    refine g_goto rfl ?_
    have h : pl (I (a + 1)) (I a 0 * I a 1) k = -1 := by omega
    refine g_ret rfl rfl ⟨?_, rfl⟩
    unfold tn
    rw [if_pos h]
/-- how many places have a piece -/
def cnF (c : Nat → Int) : Nat → Nat → Int
  | 0, _ => 0
  | m + 1, p => (if c p = -1 then 0 else 1) + cnF c m (p + 1)
def cn (c : Nat → Int) (n : Int) : Int := cnF c n.toNat 0
theorem cnF_rng (c : Nat → Int) : ∀ (m p : Nat), 0 ≤ cnF c m p ∧ cnF c m p ≤ m
  | 0, p => by unfold cnF; omega
  | m + 1, p => by
    have h := cnF_rng c m (p + 1)
    unfold cnF
    split <;> omega
theorem c_countPieces (hR : IsR a) (hO : RO I a) (h8 : I a 0 * I a 1 ≤ 8) : Ev L (d + 1) k_X3_countPieces [vR a] I (some (vI (cn (I (a + 1)) (I a 0 * I a 1)))) I := by
  obtain ⟨s1, s2, r1, ha⟩ := hR.s (L := L)
  have o7 := hO.pos
  have o6 := hO.2.2.2.2.2
  have key : ∀ (m p : Nat) (s : Int), (p : Int) + m = I a 0 * I a 1 → Go L (d + 1) k_X3_countPieces 4 [some (vR a), some (vI s), some (vI p)] [] I (fun r I' => r = some (vI (s + cnF (I (a + 1)) m p)) ∧ I' = I) := by
    intro m
    induction m with
    | zero =>
      intro p s hp
      refine g_l 5 rfl rfl ?_
      refine g_l 6 rfl rfl ?_
      refine g_callE rfl (c_size hR) ?_ (hr := rcv s1 ⟨by decide, by omega, rfl⟩)
      refine g_ic_ge rfl (by omega) (by omega) (fun h => ?_) (fun h => ?_)
      · refine g_l 32 rfl rfl ?_
        exact g_ret rfl rfl ⟨by simp [cnF], rfl⟩
      · exact absurd h (by omega)
    | succ m ih =>
      intro p s hp
      refine g_l 5 rfl rfl ?_
      refine g_l 6 rfl rfl ?_
      refine g_callE rfl (c_size hR) ?_ (hr := rcv s1 ⟨by decide, by omega, rfl⟩)
      have hc := o6 p (by omega)
      refine g_ic_ge rfl (by omega) (by omega) (fun h => ?_) (fun h => ?_)
      · exact absurd h (by omega)
      · refine g_l 13 rfl rfl ?_
        refine g_fr rfl s1 ⟨⟨by decide, by omega, by decide⟩, by decide⟩ r1 ?_
        refine g_l 17 rfl rfl ?_
        refine g_ia p rfl s2 rfl (by omega) ?_
        refine g_p 19 rfl rfl ?_
        refine g_ic_eq rfl (by omega) (by omega) (fun h1 => ?_) (fun h1 => ?_)
        · refine g_l 28 rfl rfl ?_
          refine g_goto rfl ?_
          have e : s + cnF (I (a + 1)) (m + 1) p = s + cnF (I (a + 1)) m (p + 1) := by
            rw [cnF, if_pos h1]
            omega
          rw [e]
          exact ih (p + 1) s (by omega)
        · refine g_l 25 rfl rfl ?_
          refine g_l 28 rfl rfl ?_
          refine g_goto rfl ?_
          have e : s + cnF (I (a + 1)) (m + 1) p = s + 1 + cnF (I (a + 1)) m (p + 1) := by
            rw [cnF, if_neg h1]
            omega
          rw [e]
          exact ih (p + 1) (s + 1) (by omega)
  show Go L (d + 1) k_X3_countPieces 0 [some (vR a), none, none] [] I _
  refine g_p 1 rfl rfl ?_
  refine g_l 2 rfl rfl ?_
  refine g_p 3 rfl rfl ?_
  refine g_l 4 rfl rfl ?_
  have h := key (I a 0 * I a 1).toNat 0 0 (by omega)
  rw [Int.zero_add] at h
  exact h
/-- whether something lies beside a place, at the sides from q on -/
def bsF (c : Nat → Int) (w n p : Int) : Nat → Nat → Prop
  | 0, _ => False
  | m + 1, q => (nb w n p q ≠ -1 ∧ c (nb w n p q).toNat ≠ -1) ∨ bsF c w n p m (q + 1)
theorem nb_rng {w n p q : Int} (hw : 1 ≤ w) (hp : 0 ≤ p ∧ p < n) (hwn : n % w = 0) : nb w n p q = -1 ∨ (0 ≤ nb w n p q ∧ nb w n p q < n) := by
  have m1 : 0 ≤ p % w ∧ p % w < w := ⟨Int.emod_nonneg _ (by omega), Int.emod_lt_of_pos _ (by omega)⟩
  have d1 := Int.mul_ediv_add_emod p w
  have d2 := Int.mul_ediv_add_emod n w
  unfold nb
  split
  · split
    · right; omega
    · left; rfl
  · split
    · split
      · right; omega
      · left; rfl
    · split
      · split
        · rename_i h
          right
          refine ⟨by omega, ?_⟩
          have h1 : p / w < n / w := by
            by_cases h5 : p / w < n / w
            · exact h5
            · have h5 : n / w ≤ p / w := by omega
              have h6 := Int.mul_le_mul_of_nonneg_left h5 (show 0 ≤ w by omega)
              omega
          have h2 : w * (p / w + 1) ≤ w * (n / w) := Int.mul_le_mul_of_nonneg_left (by omega) (by omega)
          rw [Int.mul_add] at h2
          omega
        · left; rfl
      · split
        · right
          have h3 : 0 ≤ w * (p / w) := Int.mul_nonneg (by omega) (Int.ediv_nonneg hp.1 (by omega))
          omega
        · left; rfl
end RC2
