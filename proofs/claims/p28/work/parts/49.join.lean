/-! the best arrangement is the best -/
def tlF (f : Nat → Int) (n : Nat) (w : Int) (row : Nat → Int) : Nat → Nat → Int
  | 0, _ => 0
  | r + 1, p => adC f (rowc row p) w n p (row p) + tlF f n w row r (p + 1)
/-- an arrangement, from place p on -/
def vRow (f : Nat → Int) (n : Nat) (w tu fr : Int) (p : Nat) (row : Nat → Int) : Prop := ∀ q, p ≤ q → q < n → (0 ≤ row q ∧ row q < 4 * n) ∧ okS f n w tu fr row q (row q).toNat
theorem tl_rng (f : Nat → Int) (n : Nat) (w : Int) (row : Nat → Int) : ∀ r p, 0 ≤ tlF f n w row r p ∧ tlF f n w row r p ≤ 48 * r
  | 0, _ => ⟨Int.le_refl _, by show (0 : Int) ≤ 48 * ((0 : Nat) : Int); omega⟩
  | r + 1, p => by
    have h1 := tl_rng f n w row r (p + 1)
    have h2 := adC_rng f (rowc row p) w n p (row p)
    rw [tlF]
    omega
theorem rowc_eq {row row' : Nat → Int} {p : Nat} (h : ∀ j, j < p → row' j = row j) : rowc row' p = rowc row p := by
  funext j
  unfold rowc
  split
  · rename_i hj
    exact h j hj
  · rfl
theorem okS_eq {f : Nat → Int} {n : Nat} {w tu fr : Int} {row row' : Nat → Int} {p v : Nat} (h : ∀ j, j < p → row' j = row j) (ho : okS f n w tu fr row p v) : okS f n w tu fr row' p v := ⟨ho.1, fun j hj => by rw [h j hj]; exact ho.2.1 j hj, ho.2.2⟩
/-- what a search gives -/
def FO (f : Nat → Int) (n : Nat) (w tu fr : Int) (r p : Nat) (row : Nat → Int) (cost : Int) (B R : Int × (Nat → Int)) : Prop :=
  R.1 ≤ B.1 ∧ (∀ row', (∀ j, j < p → row' j = row j) → vRow f n w tu fr p row' → R.1 ≤ cost + tlF f n w row' r p) ∧ (R = B ∨ ∃ row', (∀ j, j < p → row' j = row j) ∧ vRow f n w tu fr p row' ∧ R.1 = cost + tlF f n w row' r p)
theorem fsV_opt {f : Nat → Int} {n : Nat} {w tu fr : Int} {r p : Nat} {row : Nat → Int} {cost : Int} (hc : ∀ (v : Nat) (c : Int) (B : Int × (Nat → Int)), c ≤ B.1 → FO f n w tu fr r (p + 1) (zup row p v) c B (fs f n w tu fr r (p + 1) (zup row p v) c B)) : ∀ (m v : Nat) (B : Int × (Nat → Int)),
    (fsV (okS f n w tu fr row p) (fun v => adC f (rowc row p) w n p v) cost (fun v c B => fs f n w tu fr r (p + 1) (zup row p v) c B) m v B).1 ≤ B.1 ∧
    (∀ u, v ≤ u → u < v + m → okS f n w tu fr row p u → ∀ row', (∀ j, j < p + 1 → row' j = zup row p ((u : Nat) : Int) j) → vRow f n w tu fr (p + 1) row' → (fsV (okS f n w tu fr row p) (fun v => adC f (rowc row p) w n p v) cost (fun v c B => fs f n w tu fr r (p + 1) (zup row p v) c B) m v B).1 ≤ cost + adC f (rowc row p) w n p u + tlF f n w row' r (p + 1)) ∧
    ((fsV (okS f n w tu fr row p) (fun v => adC f (rowc row p) w n p v) cost (fun v c B => fs f n w tu fr r (p + 1) (zup row p v) c B) m v B) = B ∨ ∃ u, v ≤ u ∧ u < v + m ∧ okS f n w tu fr row p u ∧ ∃ row', (∀ j, j < p + 1 → row' j = zup row p ((u : Nat) : Int) j) ∧ vRow f n w tu fr (p + 1) row' ∧ (fsV (okS f n w tu fr row p) (fun v => adC f (rowc row p) w n p v) cost (fun v c B => fs f n w tu fr r (p + 1) (zup row p v) c B) m v B).1 = cost + adC f (rowc row p) w n p u + tlF f n w row' r (p + 1))
  | 0, v, B => ⟨Int.le_refl _, fun u h1 h2 => absurd h2 (by omega), Or.inl rfl⟩
  | m + 1, v, B => by
    rw [fsV]
    by_cases hg : okS f n w tu fr row p v ∧ cost + adC f (rowc row p) w n p v < B.1
    · rw [if_pos hg]
      have hC := hc v (cost + adC f (rowc row p) w n p v) B (by omega)
      obtain ⟨a1, a2, a3⟩ := fsV_opt hc m (v + 1) (fs f n w tu fr r (p + 1) (zup row p v) (cost + adC f (rowc row p) w n p v) B)
      obtain ⟨b1, b2, b3⟩ := hC
      refine ⟨Int.le_trans a1 b1, fun u h1 h2 hu row' hr hv => ?_, ?_⟩
      · by_cases huv : u = v
        · subst huv
          exact Int.le_trans a1 (b2 row' hr hv)
        · exact a2 u (by omega) (by omega) hu row' hr hv
      · rcases a3 with a3 | ⟨u, h1, h2, h3⟩
        · rw [a3]
          rcases b3 with b3 | ⟨row', h4, h5, h6⟩
          · exact Or.inl b3
          · exact Or.inr ⟨v, by omega, by omega, hg.1, row', h4, h5, h6⟩
        · exact Or.inr ⟨u, by omega, by omega, h3⟩
    · rw [if_neg hg]
      obtain ⟨a1, a2, a3⟩ := fsV_opt hc m (v + 1) B
      refine ⟨a1, fun u h1 h2 hu row' hr hv => ?_, ?_⟩
      · by_cases huv : u = v
        · subst huv
          have := Int.not_lt.mp (fun z => hg ⟨hu, z⟩)
          have := (tl_rng f n w row' r (p + 1)).1
          omega
        · exact a2 u (by omega) (by omega) hu row' hr hv
      · rcases a3 with a3 | ⟨u, h1, h2, h3⟩
        · exact Or.inl a3
        · exact Or.inr ⟨u, by omega, by omega, h3⟩
theorem fs_opt {f : Nat → Int} {n : Nat} {w tu fr : Int} : ∀ (r p : Nat) (row : Nat → Int) (cost : Int) (B : Int × (Nat → Int)), p + r = n → cost ≤ B.1 → FO f n w tu fr r p row cost B (fs f n w tu fr r p row cost B)
  | 0, p, row, cost, B, hp, hB => by
    refine ⟨hB, fun row' _ _ => ?_, Or.inr ⟨row, fun _ _ => rfl, fun q h1 h2 => absurd h2 (by omega), ?_⟩⟩
    · show cost ≤ cost + 0
      omega
    · show cost = cost + 0
      omega
  | r + 1, p, row, cost, B, hp, hB => by
    have h := fsV_opt (f := f) (n := n) (w := w) (tu := tu) (fr := fr) (r := r) (p := p) (row := row) (cost := cost) (fun v c B hc => fs_opt r (p + 1) (zup row p v) c B (by omega) hc) (4 * n) 0 B
    obtain ⟨a1, a2, a3⟩ := h
    rw [← fs, Nat.succ_eq_add_one] at a1 a2 a3
    refine ⟨a1, fun row' hr hv => ?_, ?_⟩
    · have hvp := hv p (Nat.le_refl _) (by omega)
      have hu : ((row' p).toNat : Int) = row' p := by omega
      have hok := okS_eq (row := row') (row' := row) (fun j hj => (hr j hj).symm) hvp.2
      have h2 := a2 (row' p).toNat (by omega) (by omega) hok row' (fun j hj => by
        by_cases hjp : j = p
        · rw [hjp, zup_s, hu]
        · rw [zup_n hjp]
          exact hr j (by omega)) (fun q h1 h2 => hv q (by omega) h2)
      rw [hu, ← rowc_eq hr] at h2
      rw [tlF]
      omega
    · rcases a3 with a3 | ⟨u, h1, h2, h3, row', h4, h5, h6⟩
      · exact Or.inl a3
      · have hrp : row' p = (u : Int) := by
          rw [h4 p (by omega), zup_s]
        have hr : ∀ j, j < p → row' j = row j := fun j hj => by
          rw [h4 j (by omega), zup_n (by omega)]
        refine Or.inr ⟨row', hr, fun q hq1 hq2 => ?_, ?_⟩
        · by_cases hq : q = p
          · subst hq
            rw [hrp]
            refine ⟨by omega, okS_eq hr ?_⟩
            rw [Int.toNat_natCast]
            exact h3
          · exact h5 q (by omega) hq2
        · rw [h6, tlF, hrp, rowc_eq hr]
          omega
theorem jn_opt (v : Nat → Int) (w tu fr : Int) : FO (fC v) (fN v) w tu fr (fN v) 0 (fun _ => 0) 0 (1000, fun _ => 0) (jnB v w tu fr) := fs_opt (fN v) 0 _ _ _ (by omega) (by show (0 : Int) ≤ 1000; omega)
theorem jn_le {v : Nat → Int} {w tu fr : Int} {row : Nat → Int} (h : vRow (fC v) (fN v) w tu fr 0 row) : (jnB v w tu fr).1 ≤ tlF (fC v) (fN v) w row (fN v) 0 := by
  have := (jn_opt v w tu fr).2.1 row (fun j hj => absurd hj (by omega)) h
  omega
theorem jn_is (v : Nat → Int) (w tu fr : Int) : (jnB v w tu fr).1 = 1000 ∨ ∃ row, vRow (fC v) (fN v) w tu fr 0 row ∧ (jnB v w tu fr).1 = tlF (fC v) (fN v) w row (fN v) 0 := by
  rcases (jn_opt v w tu fr).2.2 with h | ⟨row, -, h2, h3⟩
  · exact Or.inl (by rw [h])
  · exact Or.inr ⟨row, h2, by omega⟩
theorem jn_nn (v : Nat → Int) (w tu fr : Int) : 0 ≤ (jnB v w tu fr).1 := by
  rcases jn_is v w tu fr with h | ⟨row, h1, h2⟩
  · omega
  · have := tl_rng (fC v) (fN v) w row (fN v) 0
    omega
theorem vRow_mono {f : Nat → Int} {n : Nat} {w tu fr tu' fr' : Int} {row : Nat → Int} (h : vRow f n w tu fr 0 row) (h1 : tu = 1 → tu' = 1) (h2 : fr' = 1 → fr = 1) : vRow f n w tu' fr' 0 row := fun q a b => by
  obtain ⟨c1, c2, c3, c4⟩ := h q a b
  refine ⟨c1, ?_, c3, fun z => c4 (h2 z)⟩
  rcases c2 with c2 | c2
  · exact Or.inl c2
  · exact Or.inr (h1 c2)
theorem jn_mono {v : Nat → Int} {w tu fr tu' fr' : Int} (h1 : tu = 1 → tu' = 1) (h2 : fr' = 1 → fr = 1) : (jnB v w tu' fr').1 ≤ (jnB v w tu fr).1 := by
  rcases jn_is v w tu fr with h | ⟨row, a, b⟩
  · rw [h]
    exact (jn_opt v w tu' fr').1
  · rw [b]
    exact jn_le (vRow_mono a h1 h2)
/-- the pieces in their order, none turned -/
def idR : Nat → Int := fun j => 4 * (j : Int)
theorem idR_ok {f : Nat → Int} {n : Nat} {w tu : Int} : vRow f n w tu 0 0 idR := fun q _ hq => by
  have e : (idR q).toNat = 4 * q := by unfold idR; omega
  refine ⟨by unfold idR; omega, ?_⟩
  rw [e]
  refine ⟨Or.inl (by omega), fun j hj => ?_, fun z => absurd z (by decide)⟩
  unfold idR
  omega
theorem jn_id {v : Nat → Int} {w tu : Int} (h8 : fN v ≤ 8) : (jnB v w tu 0).1 ≤ tlF (fC v) (fN v) w idR (fN v) 0 ∧ (jnB v w tu 0).1 < 1000 := by
  have h1 := jn_le (v := v) (w := w) (tu := tu) (fr := 0) (idR_ok (f := fC v) (n := fN v) (w := w) (tu := tu))
  have h2 := tl_rng (fC v) (fN v) w idR (fN v) 0
  exact ⟨h1, by omega⟩
theorem jnA_lt {v : Nat → Int} {w tu fr : Int} (h : (jnB v w tu fr).1 < 1000) : jnA v w tu fr (-1) = (jnB v w tu fr).1 := by
  unfold jnA
  rw [if_pos h, if_pos rfl]
theorem jnA_ge {v : Nat → Int} {w tu fr : Int} (h : ¬ (jnB v w tu fr).1 < 1000) : jnA v w tu fr (-1) = -5 := by
  unfold jnA
  rw [if_neg h]
/-- the law's questions about arrangements -/
theorem jn_law {v : Nat → Int} {w : Int} (h8 : fN v ≤ 8) : (0 ≤ jnA v w 0 0 (-1) ∧ jnA v w 0 0 (-1) ≤ tlF (fC v) (fN v) w idR (fN v) 0) ∧ jnA v w 1 0 (-1) ≤ jnA v w 0 0 (-1) ∧ (jnA v w 0 1 (-1) = -5 ∨ jnA v w 0 0 (-1) ≤ jnA v w 0 1 (-1)) ∧ (-5 ≤ jnA v w 1 0 (-1) ∧ jnA v w 1 0 (-1) ≤ 1000) ∧ (-5 ≤ jnA v w 0 1 (-1) ∧ jnA v w 0 1 (-1) ≤ 1000) := by
  have a0 := jn_id (v := v) (w := w) (tu := 0) h8
  have a1 := jn_id (v := v) (w := w) (tu := 1) h8
  have n0 := jn_nn v w 0 0
  have n1 := jn_nn v w 1 0
  have n2 := jn_nn v w 0 1
  have m1 := jn_mono (v := v) (w := w) (tu := 0) (fr := 0) (tu' := 1) (fr' := 0) (fun z => absurd z (by decide)) id
  have m2 := jn_mono (v := v) (w := w) (tu := 0) (fr := 1) (tu' := 0) (fr' := 0) id (fun z => absurd z (by decide))
  rw [jnA_lt a0.2, jnA_lt a1.2]
  refine ⟨⟨n0, a0.1⟩, m1, ?_, ⟨by omega, by omega⟩, ?_⟩
  · by_cases h : (jnB v w 0 1).1 < 1000
    · rw [jnA_lt h]
      exact Or.inr m2
    · exact Or.inl (jnA_ge h)
  · by_cases h : (jnB v w 0 1).1 < 1000
    · rw [jnA_lt h]
      omega
    · rw [jnA_ge h]
      omega
/-- the costs of the puts in a row are those of the row -/
def aI (v : Nat → Int) (p : Nat) : Int := adC (fC v) (rowc idR p) (fN v) (fN v) p (4 * (p : Int))
theorem tl_sg (v : Nat → Int) : ∀ r p, tlF (fC v) (fN v) (fN v) idR r p + sgF (aI v) p = sgF (aI v) (p + r)
  | 0, p => by
    rw [tlF, Int.zero_add]
    rfl
  | r + 1, p => by
    have h := tl_sg v r (p + 1)
    rw [show p + (r + 1) = p + 1 + r by omega, ← h, sgF, tlF]
    have e : adC (fC v) (rowc idR p) (fN v) (fN v) p (idR p) = aI v p := rfl
    rw [e]
    omega
theorem tl_aI (v : Nat → Int) : tlF (fC v) (fN v) (fN v) idR (fN v) 0 = sgF (aI v) (fN v) := by
  have h := tl_sg v (fN v) 0
  have z : sgF (aI v) 0 = 0 := rfl
  rw [z, Int.add_zero, Nat.zero_add] at h
  exact h
