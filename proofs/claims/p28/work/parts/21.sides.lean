/-! Sides: colours, differences, mates -/
def ab (x : Int) : Int := if 0 ≤ x then x else -x
theorem zabs_eq {x : Int} (h : -2147483647 ≤ x ∧ x ≤ 2147483647) : zabs x = ab x := by
  have e : (0 : Int32) ≤ Int32.ofInt x ↔ 0 ≤ x := by
    have e := i32_le 0 x
    rw [n32_0, n32_eq (by omega)] at e
    exact e
  unfold zabs ab
  by_cases h0 : 0 ≤ x
  · rw [if_pos (e.mpr h0), if_pos h0]
    exact n32_eq (by omega)
  · rw [if_neg (fun q => h0 (e.mp q)), if_neg h0]
    have e2 : (0 : Int32) - Int32.ofInt x = Int32.ofInt (0 - x) := by
      first | exact (Int32.ofInt_sub 0 x).symm | simp
    rw [e2]
    have e3 := n32_eq (x := 0 - x) (by omega)
    unfold n32 at e3
    rw [e3]
    omega
section GA
variable {L d y pc : Nat} {lv : zLv} {st : List zV} {I : zI} {Q : Option zV → zI → Prop}
theorem g_abs {ix len A B : Nat} {Z a : Int} (n : Nat) (hf : zfn pc (zC y) = some (.invokestatic ix, len, A, B, 11, Z)) (ha : -2147483647 ≤ a ∧ a ≤ 2147483647) (hst : zcats st ≤ 7) (k : Go L (d + 1) y n lv (vI (ab a) :: st) I Q) (hn : pc + len = n := by rfl) : Go L (d + 1) y pc lv (vI a :: st) I Q := by
  refine Go.px hf rfl rfl rfl (fun hL => ?_) hn k
  simp only [zpx, zpK]
  have hc : zcats (vI a :: st) ≤ 8 := by
    unfold zcats at hst ⊢
    simp only [List.map_cons, List.sum_cons, zcat]
    omega
  rw [if_pos ⟨hc, by omega⟩, zabs_eq ha]
theorem g_min {ix len A B : Nat} {Z a b : Int} (n : Nat) (hf : zfn pc (zC y) = some (.invokestatic ix, len, A, B, 12, Z)) (ha : rng a) (hb : rng b) (hst : zcats st ≤ 6) (k : Go L (d + 1) y n lv (vI (if b < a then b else a) :: st) I Q) (hn : pc + len = n := by rfl) : Go L (d + 1) y pc lv (vI b :: vI a :: st) I Q := by
  refine Go.px hf rfl rfl rfl (fun hL => ?_) hn k
  simp only [zpx, zpK]
  have hc : zcats (vI b :: vI a :: st) ≤ 8 := by
    unfold zcats at hst ⊢
    simp only [List.map_cons, List.sum_cons, zcat]
    omega
  rw [if_pos ⟨hc, by omega⟩]
  unfold zmin
  rw [n32_eq ha, n32_eq hb]
end GA
def rimI (j : Nat) : Int := ([0, 1, 2, 3, 3, 7, 11, 15, 15, 14, 13, 12, 12, 8, 4, 0] : List Int).getD j 0
theorem rimI_rng : ∀ j, j < 16 → 0 ≤ rimI j ∧ rimI j ≤ 15 := by decide
/-- b's first m places are f's -/
def wrN (I : zI) (b : Nat) (f : Nat → Int) (m : Nat) : zI := fun q => if q = b then (fun j => if j < m then f j else I b j) else I q
theorem wrN_0 (I : zI) (b : Nat) (f : Nat → Int) : wrN I b f 0 = I := by
  funext q j
  unfold wrN
  split
  · rename_i h
    subst h
    simp
  · rfl
theorem wrN_s {I : zI} {b m : Nat} {f : Nat → Int} {x : Int} (hx : x = f m) : zup2 (wrN I b f m) b m x = wrN I b f (m + 1) := by
  subst hx
  funext q j
  unfold zup2 wrN zup
  by_cases h : q = b
  · subst h
    by_cases h2 : j = m
    · subst h2
      simp
    · have e : (j < m + 1) = (j < m) := by
        apply propext
        omega
      simp [h2, e]
  · simp [h]
theorem wrN_ne {I : zI} {b q m : Nat} {f : Nat → Int} (h : q ≠ b) : wrN I b f m q = I q := if_neg h
theorem wrN_at {I : zI} {b m j : Nat} {f : Nat → Int} (h : j < m) : wrN I b f m b j = f j := by simp [wrN, h]
/-- the edge of side s of cells c: the first k colours -/
def egF (c : Int) (s : Nat) : Nat → Int
  | 0 => 0
  | k + 1 => 4 * egF c s k + col c (rimI (4 * s + k))
def eg (c : Int) (s : Nat) : Int := egF c s 4
theorem egF_rng (c : Int) (s : Nat) : 0 ≤ egF c s 0 ∧ egF c s 0 ≤ 0 ∧ 0 ≤ egF c s 1 ∧ egF c s 1 ≤ 3 ∧ 0 ≤ egF c s 2 ∧ egF c s 2 ≤ 15 ∧ 0 ≤ egF c s 3 ∧ egF c s 3 ≤ 63 ∧ 0 ≤ egF c s 4 ∧ egF c s 4 ≤ 255 := by
  have h0 := col_rng c (rimI (4 * s + 0))
  have h1 := col_rng c (rimI (4 * s + 1))
  have h2 := col_rng c (rimI (4 * s + 2))
  have h3 := col_rng c (rimI (4 * s + 3))
  simp only [egF]
  omega
theorem eg_rng (c : Int) (s : Nat) : 0 ≤ eg c s ∧ eg c s ≤ 255 := by
  have := egF_rng c s
  unfold eg
  omega
theorem egF_k (c : Int) (s k : Nat) (hk : k ≤ 4) : 0 ≤ egF c s k ∧ egF c s k ≤ 255 := by
  have := egF_rng c s
  have : k = 0 ∨ k = 1 ∨ k = 2 ∨ k = 3 ∨ k = 4 := by omega
  rcases this with rfl | rfl | rfl | rfl | rfl <;> omega
/-- the difference of two edges, from colour k on -/
def difF (a b : Int) : Nat → Nat → Int
  | 0, _ => 0
  | m + 1, k => ab (col a (3 - k) - col b k) + difF a b m (k + 1)
def dif (a b : Int) : Int := difF a b 4 0
theorem ab_rng {x : Int} (h : -3 ≤ x ∧ x ≤ 3) : 0 ≤ ab x ∧ ab x ≤ 3 := by
  unfold ab
  split <;> omega
theorem difF_rng (a b : Int) : ∀ m k, 0 ≤ difF a b m k ∧ difF a b m k ≤ 3 * m
  | 0, k => by unfold difF; omega
  | m + 1, k => by
    have h := difF_rng a b m (k + 1)
    have h1 := col_rng a (3 - k)
    have h2 := col_rng b k
    have h3 := ab_rng (x := col a (3 - k) - col b k) (by omega)
    unfold difF
    omega
section SD
variable {L d : Nat} {I : zI}
theorem c_isFlat {k : Nat} (hk : k < 32) (hr : rng (I 39 k)) : Ev L d k_X4_isFlat [vR 37, vI k] I (some (vI (b2i (I 39 k = 0)))) I := by
  show Go L d k_X4_isFlat 0 [some (vR 37), some (vI k)] [] I _
  refine g_l 1 rfl rfl ?_
  refine g_fr rfl rfl ⟨⟨by decide, by omega, by decide⟩, by decide⟩ rfl ?_
  refine g_l 5 rfl rfl ?_
  refine g_ia k rfl rfl rfl hk ?_
  refine g_if_ne rfl (by omega) (fun h => ?_) (fun h => ?_)
  · refine g_p 14 rfl rfl ?_
    exact g_retb rfl rfl (Or.inl rfl) ⟨by rw [← b2i_f h], rfl⟩
  · refine g_p 10 rfl rfl ?_
    refine g_goto rfl ?_
    exact g_retb rfl rfl (Or.inr rfl) ⟨by rw [← b2i_t (by omega)], rfl⟩
theorem c_differenceOf {a b : Int} : Ev L (d + 1) k_X4_differenceOf [vI a, vI b] I (some (vI (dif a b))) I := by
  have key : ∀ (m k : Nat) (s : Int), k + m = 4 → Go L (d + 1) k_X4_differenceOf 4 [some (vI a), some (vI b), some (vI s), some (vI k)] [] I (fun r I' => r = some (vI (s + difF a b m k)) ∧ I' = I) := by
    intro m
    induction m with
    | zero =>
      intro k s hk
      refine g_l 5 rfl rfl ?_
      refine g_p 6 rfl rfl ?_
      refine g_ic_ge rfl (by omega) (by omega) (fun h => ?_) (fun h => ?_)
      · refine g_l 35 rfl rfl ?_
        exact g_ret rfl rfl ⟨by simp [difF], rfl⟩
      · exact absurd h (by omega)
    | succ m ih =>
      intro k s hk
      refine g_l 5 rfl rfl ?_
      refine g_p 6 rfl rfl ?_
      refine g_ic_ge rfl (by omega) (by omega) (fun h => ?_) (fun h => ?_)
      · exact absurd h (by omega)
      · refine g_l 10 rfl rfl ?_
        refine g_l 11 rfl rfl ?_
        refine g_p 12 rfl rfl ?_
        refine g_l 13 rfl rfl ?_
        refine g_p 14 rfl rfl ?_
        refine g_callE rfl c_colorIn ?_
        refine g_l 18 rfl rfl ?_
        refine g_l 19 rfl rfl ?_
        refine g_callE rfl c_colorIn ?_
        have h1 := col_rng a (3 - k)
        have h2 := col_rng b k
        refine g_p 23 rfl rfl ?_
        refine g_abs 26 rfl (by omega) (Nat.le_of_ble_eq_true rfl) ?_
        refine g_p 27 rfl rfl ?_
        refine g_l 28 rfl rfl ?_
        refine g_l 31 rfl rfl ?_
        refine g_goto rfl ?_
        have e : s + difF a b (m + 1) k = s + ab (col a (3 - k) - col b k) + difF a b m (k + 1) := by
          rw [difF]
          omega
        rw [e]
        exact ih (k + 1) _ (by omega)
  show Go L (d + 1) k_X4_differenceOf 0 [some (vI a), some (vI b), none, none] [] I _
  refine g_p 1 rfl rfl ?_
  refine g_l 2 rfl rfl ?_
  refine g_p 3 rfl rfl ?_
  refine g_l 4 rfl rfl ?_
  have h := key 4 0 0 rfl
  rw [Int.zero_add] at h
  exact h
/-- the colours of all sides -/
theorem c_readColors {n : Nat} {c : Nat → Int} (hn : n ≤ 8) (h0 : I 37 0 = n) (hc : ∀ p, p < n → I 38 p = c p) (hr : ∀ j, j < 16 → I 0 j = rimI j) : Ev L (d + 1) k_X4_readColors [vR 37] I none (wrN I 39 (fun k => eg (c (k / 4)) (k % 4)) (4 * n)) := by
  have key : ∀ (m k : Nat) (o2 o3 : Option zV), k + m = 4 * n → Go L (d + 1) k_X4_readColors 2 [some (vR 37), some (vI k), o2, o3] [] (wrN I 39 (fun k => eg (c (k / 4)) (k % 4)) k) (fun r I' => r = none ∧ I' = wrN I 39 (fun k => eg (c (k / 4)) (k % 4)) (4 * n)) := by
    intro m
    induction m with
    | zero =>
      intro k o2 o3 hk
      refine g_l 3 rfl rfl ?_
      refine g_p 4 rfl rfl ?_
      refine g_l 5 rfl rfl ?_
      refine g_fi rfl rfl ⟨⟨by decide, by omega, by decide⟩, by decide⟩ ?_
      refine g_p 9 rfl rfl ?_
      rw [wrN_ne (by omega), h0]
      refine g_ic_ge rfl (by omega) (by omega) (fun h => ?_) (fun h => ?_)
      · have e : k = 4 * n := by omega
        subst e
        exact g_ret rfl rfl ⟨rfl, rfl⟩
      · exact absurd h (by omega)
    | succ m ih =>
      intro k o2 o3 hk
      refine g_l 3 rfl rfl ?_
      refine g_p 4 rfl rfl ?_
      refine g_l 5 rfl rfl ?_
      refine g_fi rfl rfl ⟨⟨by decide, by omega, by decide⟩, by decide⟩ ?_
      refine g_p 9 rfl rfl ?_
      rw [wrN_ne (by omega), h0]
      refine g_ic_ge rfl (by omega) (by omega) (fun h => ?_) (fun h => ?_)
      · exact absurd h (by omega)
      · refine g_p 13 rfl rfl ?_
        refine g_l 14 rfl rfl ?_
        refine g_p 15 rfl rfl ?_
        refine g_l 16 rfl rfl ?_
        have inner : ∀ (m2 j : Nat), j + m2 = 4 → Go L (d + 1) k_X4_readColors 16 [some (vR 37), some (vI k), some (vI (egF (c (k / 4)) (k % 4) j)), some (vI j)] [] (wrN I 39 (fun k => eg (c (k / 4)) (k % 4)) k) (fun r I' => r = none ∧ I' = wrN I 39 (fun k => eg (c (k / 4)) (k % 4)) (4 * n)) := by
          intro m2
          induction m2 with
          | zero =>
            intro j hj
            refine g_l 17 rfl rfl ?_
            refine g_p 18 rfl rfl ?_
            refine g_ic_ge rfl (by omega) (by omega) (fun g => ?_) (fun g => ?_)
            · refine g_l 55 rfl rfl ?_
              refine g_fr rfl rfl ⟨⟨by decide, by omega, by decide⟩, by decide⟩ rfl ?_
              refine g_l 59 rfl rfl ?_
              refine g_l 60 rfl rfl ?_
              refine g_ias k rfl rfl (by omega) rfl (by omega) ?_
              have e : j = 4 := by omega
              subst e
              rw [wrN_s (f := fun k => eg (c (k / 4)) (k % 4)) (x := egF (c (k / 4)) (k % 4) 4) rfl]
              refine g_l 64 rfl rfl ?_
              refine g_goto rfl ?_
              exact ih (k + 1) _ _ (by omega)
            · exact absurd g (by omega)
          | succ m2 ih2 =>
            intro j hj
            refine g_l 17 rfl rfl ?_
            refine g_p 18 rfl rfl ?_
            refine g_ic_ge rfl (by omega) (by omega) (fun g => ?_) (fun g => ?_)
            · exact absurd g (by omega)
            · refine g_p 22 rfl rfl ?_
              refine g_l 23 rfl rfl ?_
              refine g_p 24 rfl rfl ?_
              refine g_l 25 rfl rfl ?_
              refine g_fr rfl rfl ⟨⟨by decide, by omega, by decide⟩, by decide⟩ rfl ?_
              refine g_l 29 rfl rfl ?_
              refine g_p 30 rfl rfl ?_
              refine g_div 31 rfl (by omega) (by omega) ?_
              refine g_ia (k / 4) rfl rfl (by omega) (by omega) ?_
              rw [wrN_ne (by omega), hc (k / 4) (by omega)]
              refine g_rim rfl ?_
              refine g_p 36 rfl rfl ?_
              refine g_l 37 rfl rfl ?_
              refine g_p 38 rfl rfl ?_
              refine g_rem 39 rfl (by omega) (by omega) ?_
              refine g_p 40 rfl rfl ?_
              refine g_l 41 rfl rfl ?_
              refine g_p 42 rfl rfl ?_
              refine g_ia (4 * (k % 4) + j) rfl rfl (by omega) (by omega) ?_
              rw [wrN_ne (by omega), hr _ (by omega)]
              refine g_callE rfl c_colorIn ?_
              refine g_p 47 rfl rfl ?_
              refine g_l 48 rfl rfl ?_
              refine g_l 51 rfl rfl ?_
              refine g_goto rfl ?_
              exact ih2 (j + 1) (by omega)
        exact inner 4 0 rfl
  show Go L (d + 1) k_X4_readColors 0 [some (vR 37), none, none, none] [] I _
  refine g_p 1 rfl rfl ?_
  refine g_l 2 rfl rfl ?_
  have h := key (4 * n) 0 none none (by omega)
  rw [wrN_0] at h
  exact h
end SD
