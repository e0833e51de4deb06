/-! sums; counts: pairs, groups, edges, sorts -/
def sgF (g : Nat → Int) : Nat → Int
  | 0 => 0
  | n + 1 => sgF g n + g n
theorem sgF_up {g : Nat → Int} {p : Nat} {x : Int} : ∀ n, sgF (zup g p x) n = if p < n then sgF g n - g p + x else sgF g n
  | 0 => by rw [if_neg (by omega)]; rfl
  | n + 1 => by
    rw [sgF, sgF, sgF_up n]
    by_cases h : p < n
    · rw [if_pos h, if_pos (by omega), zup_n (show n ≠ p by omega)]
      omega
    · rw [if_neg h]
      by_cases h2 : p = n
      · rw [if_pos (by omega), h2, zup_s]
        omega
      · rw [if_neg (by omega), zup_n (show n ≠ p by omega)]
theorem sgF_0 {g : Nat → Int} : ∀ n, (∀ p, p < n → 0 ≤ g p) → 0 ≤ sgF g n
  | 0, _ => Int.le_refl _
  | n + 1, h => by
    have h1 := sgF_0 n (fun p hp => h p (by omega))
    have h2 := h n (by omega)
    rw [sgF]
    omega
theorem sgF_add (a b : Nat → Int) : ∀ n, sgF (fun p => a p + b p) n = sgF a n + sgF b n
  | 0 => rfl
  | n + 1 => by
    rw [sgF, sgF, sgF, sgF_add a b n]
    omega
theorem sgF_z {a : Nat → Int} : ∀ n, (∀ p, p < n → a p = 0) → sgF a n = 0
  | 0, _ => rfl
  | n + 1, h => by
    rw [sgF, sgF_z n (fun p hp => h p (by omega)), h n (by omega)]
    rfl
theorem sgF_sh {a b : Nat → Int} {w n : Nat} (h0 : ∀ p, p < w → a p = 0) (h1 : ∀ p, p + w < n → a (p + w) = b p) : ∀ m, m + w ≤ n → sgF a (m + w) = sgF b m
  | 0, _ => by rw [Nat.zero_add, sgF_z w h0]; rfl
  | m + 1, h => by
    rw [show m + 1 + w = (m + w) + 1 by omega, sgF, sgF, sgF_sh h0 h1 m (by omega), h1 m (by omega)]
theorem sgF_tl {b : Nat → Int} {k : Nat} : ∀ j, (∀ p, k ≤ p → p < k + j → b p = 0) → sgF b (k + j) = sgF b k
  | 0, _ => rfl
  | j + 1, h => by
    rw [show k + (j + 1) = (k + j) + 1 by omega, sgF, sgF_tl j (fun p h1 h2 => h p h1 (by omega)), h (k + j) (by omega) (by omega), Int.add_zero]
theorem sgF_eq {a b : Nat → Int} {w n : Nat} (hw : w ≤ n) (h0 : ∀ p, p < w → a p = 0) (h1 : ∀ p, p + w < n → a (p + w) = b p) (h2 : ∀ p, p < n → n ≤ p + w → b p = 0) : sgF a n = sgF b n := by
  have e1 := sgF_sh h0 h1 (n - w) (by omega)
  have e2 := sgF_tl (b := b) (k := n - w) w (fun p h3 h4 => h2 p (by omega) (by omega))
  rw [show n - w + w = n by omega] at e1 e2
  rw [e1, e2]
theorem sgF_cg {a b : Nat → Int} : ∀ n, (∀ p, p < n → a p = b p) → sgF a n = sgF b n
  | 0, _ => rfl
  | n + 1, h => by rw [sgF, sgF, sgF_cg n (fun p hp => h p (by omega)), h n (by omega)]
theorem sg_mono {a b : Nat → Int} : ∀ n, (∀ p, p < n → a p ≤ b p) → sgF a n ≤ sgF b n
  | 0, _ => Int.le_refl _
  | n + 1, h => by
    have h1 := sg_mono n (fun p hp => h p (by omega))
    have h2 := h n (by omega)
    rw [sgF, sgF]
    omega
theorem sg_c (c : Int) : ∀ n : Nat, sgF (fun _ => c) n = c * n
  | 0 => by
    show (0 : Int) = c * ((0 : Nat) : Int)
    rw [Int.natCast_zero, Int.mul_zero]
  | n + 1 => by
    rw [sgF, sg_c c n, Int.natCast_succ, Int.mul_add, Int.mul_one]
theorem sg_swap (f : Nat → Nat → Int) (m : Nat) : ∀ n, sgF (fun k => sgF (fun j => f k j) m) n = sgF (fun j => sgF (fun k => f k j) n) m
  | 0 => by
    show (0 : Int) = sgF (fun j => sgF (fun k => f k j) 0) m
    exact (sgF_z m (fun p _ => rfl)).symm
  | n + 1 => by
    rw [sgF, sg_swap f m n, ← sgF_add]
    rfl
theorem sg_ge {a : Nat → Int} {p : Nat} : ∀ n, (∀ q, q < n → 0 ≤ a q) → p < n → a p ≤ sgF a n
  | 0, _, h => absurd h (by omega)
  | n + 1, h, hp => by
    have h0 := sgF_0 n (fun q hq => h q (by omega))
    have h1 := h n (by omega)
    rw [sgF]
    by_cases hpn : p = n
    · subst hpn
      omega
    · have := sg_ge (a := a) (p := p) n (fun q hq => h q (by omega)) (by omega)
      omega
/-- at most one of them is 1, the rest 0 -/
theorem sg_1 {a : Nat → Int} : ∀ n, (∀ p, p < n → a p = 0 ∨ a p = 1) → (∀ p q, p < n → q < n → a p = 1 → a q = 1 → p = q) → sgF a n ≤ 1
  | 0, _, _ => by
    show (0 : Int) ≤ 1
    omega
  | n + 1, h, hu => by
    rw [sgF]
    rcases h n (by omega) with h1 | h1
    · have := sg_1 n (fun p hp => h p (by omega)) (fun p q hp hq => hu p q (by omega) (by omega))
      omega
    · have z : sgF a n = 0 := sgF_z n (fun p hp => by
        rcases h p (by omega) with h2 | h2
        · exact h2
        · have := hu p n (by omega) (by omega) h2 h1
          omega)
      omega
noncomputable def b2c (P : Prop) : Int := @ite Int P (Classical.propDecidable P) 1 0
theorem b2c_1 {P : Prop} (h : P) : b2c P = 1 := if_pos h
theorem b2c_0 {P : Prop} (h : ¬ P) : b2c P = 0 := if_neg h
theorem b2c_r (P : Prop) : b2c P = 0 ∨ b2c P = 1 := by
  by_cases h : P
  · exact Or.inr (b2c_1 h)
  · exact Or.inl (b2c_0 h)
theorem b2c_i {P : Prop} (h : b2c P = 1) : P := Classical.byContradiction (fun z => by
  rw [b2c_0 z] at h
  exact absurd h (by decide))
theorem b2c_g {P Q : Prop} (h : P ↔ Q) : b2c P = b2c Q := by rw [propext h]
/-- as many there as here, if what is told apart here goes to what is told apart there -/
theorem inj_cnt {P Q : Nat → Prop} {f : Nat → Nat} {n m : Nat} (h1 : ∀ k, k < n → P k → f k < m ∧ Q (f k)) (h2 : ∀ k j, k < n → j < n → P k → P j → f k = f j → k = j) : sgF (fun k => b2c (P k)) n ≤ sgF (fun j => b2c (Q j)) m := by
  have a : sgF (fun k => b2c (P k)) n ≤ sgF (fun k => sgF (fun j => b2c (Q j ∧ P k ∧ f k = j)) m) n := sg_mono n (fun k hk => by
    have hnn : ∀ j, j < m → 0 ≤ b2c (Q j ∧ P k ∧ f k = j) := fun j _ => by
      rcases b2c_r (Q j ∧ P k ∧ f k = j) with h | h <;> omega
    by_cases hP : P k
    · have hh := h1 k hk hP
      have := sg_ge (a := fun j => b2c (Q j ∧ P k ∧ f k = j)) (p := f k) m hnn hh.1
      rw [b2c_1 (show Q (f k) ∧ P k ∧ f k = f k from ⟨hh.2, hP, rfl⟩)] at this
      rw [b2c_1 hP]
      exact this
    · rw [b2c_0 hP]
      exact sgF_0 m hnn)
  rw [sg_swap] at a
  refine Int.le_trans a (sg_mono m (fun j _ => ?_))
  by_cases hQ : Q j
  · rw [b2c_1 hQ]
    refine sg_1 n (fun k _ => b2c_r _) (fun k i hk hi e1 e2 => ?_)
    have z1 := b2c_i e1
    have z2 := b2c_i e2
    exact h2 k i hk hi z1.2.1 z2.2.1 (z1.2.2.trans z2.2.2.symm)
  · rw [b2c_0 hQ]
    rw [sgF_z n (fun k _ => b2c_0 (fun z => hQ z.1))]
    exact Int.le_refl _
theorem cp_sg (M : Nat → Int) : ∀ m p, cpF M m p + sgF (fun k => b2c (lowP M k)) p = sgF (fun k => b2c (lowP M k)) (p + m)
  | 0, p => by
    rw [cpF, Int.zero_add]
    rfl
  | m + 1, p => by
    have h := cp_sg M m (p + 1)
    rw [show p + (m + 1) = p + 1 + m by omega, ← h, sgF, cpF]
    by_cases hl : lowP M p
    · rw [if_pos hl, b2c_1 hl]
      omega
    · rw [if_neg hl, b2c_0 hl]
      omega
theorem cg_sg (g : Nat → Int) : ∀ m p, cgF g m p + sgF (fun k => b2c (g k = (k : Int))) p = sgF (fun k => b2c (g k = (k : Int))) (p + m)
  | 0, p => by
    rw [cgF, Int.zero_add]
    rfl
  | m + 1, p => by
    have h := cg_sg g m (p + 1)
    rw [show p + (m + 1) = p + 1 + m by omega, ← h, sgF, cgF]
    by_cases hl : g p = (p : Int)
    · rw [if_pos hl, b2c_1 hl]
      omega
    · rw [if_neg hl, b2c_0 hl]
      omega
theorem cn_sg (c : Nat → Int) : ∀ m p, cnF c m p + sgF (fun k => b2c (c k ≠ -1)) p = sgF (fun k => b2c (c k ≠ -1)) (p + m)
  | 0, p => by
    rw [cnF, Int.zero_add]
    rfl
  | m + 1, p => by
    have h := cn_sg c m (p + 1)
    rw [show p + (m + 1) = p + 1 + m by omega, ← h, sgF, cnF]
    by_cases hl : c p = -1
    · rw [if_pos hl, b2c_0 (fun z => z hl)]
      omega
    · rw [if_neg hl, b2c_1 hl]
      omega
theorem ce_sg (f : Nat → Int) (w : Int) : ∀ m p, ceF f w m p + sgF (fun s => b2c (¬ sbF f w s s 0)) p = sgF (fun s => b2c (¬ sbF f w s s 0)) (p + m)
  | 0, p => by
    rw [ceF, Int.zero_add]
    rfl
  | m + 1, p => by
    have h := ce_sg f w m (p + 1)
    rw [show p + (m + 1) = p + 1 + m by omega, ← h, sgF, ceF]
    by_cases hl : sbF f w p p 0
    · rw [if_pos hl, b2c_0 (fun z => z hl)]
      omega
    · rw [if_neg hl, b2c_1 hl]
      omega
theorem fM_k (v : Nat → Int) (k : Nat) : fM v k = if fC v k = 0 then -1 else mtF (fC v) k (4 * fN v) 0 (-1) 1000 := rfl
theorem fM_rng (v : Nat → Int) (k : Nat) : fM v k = -1 ∨ (0 ≤ fM v k ∧ fM v k < 4 * fN v ∧ (fM v k).toNat / 4 ≠ k / 4) := by
  have h := mt_rng (ek (vcel v)) (4 * fN v) k
  show mt (ek (vcel v)) (4 * fN v) k = -1 ∨ (0 ≤ mt (ek (vcel v)) (4 * fN v) k ∧ mt (ek (vcel v)) (4 * fN v) k < 4 * fN v ∧ (mt (ek (vcel v)) (4 * fN v) k).toNat / 4 ≠ k / 4)
  rcases h with h | h
  · exact Or.inl h
  · exact Or.inr ⟨h.1, by have := h.2.1; omega, h.2.2.1⟩
/-- equal on what pairs join -/
def CN (M : Nat → Int) (n : Nat) (h : Nat → Int) : Prop := ∀ k, k < 4 * n → lowP M k → h (k / 4) = h ((M k).toNat / 4)
def GI (M : Nat → Int) (n : Nat) (g : Nat → Int) : Prop := (∀ p, p < n → 0 ≤ g p ∧ g p ≤ p) ∧ ∀ h : Nat → Int, CN M n h → ∀ p, p < n → h p = h (g p).toNat
theorem jg_inv {M : Nat → Int} {n : Nat} (hM : ∀ k, k < 4 * n → M k < 4 * n) : ∀ (m s : Nat) (g : Nat → Int), s + m = 4 * n → GI M n g → (∀ k, k < s → lowP M k → g (k / 4) = g ((M k).toNat / 4)) → GI M n (jgF M m s g) ∧ CN M n (jgF M m s g)
  | 0, s, g, hs, hg, hc => ⟨hg, fun k hk hl => hc k (by omega) hl⟩
  | m + 1, s, g, hs, hg, hc => by
    rw [jgF]
    refine jg_inv hM m (s + 1) _ (by omega) ?_ ?_
    · by_cases hl : lowP M s
      · rw [if_pos hl]
        have hMs := hM s (by omega)
        have q1 := hg.1 (s / 4) (by omega)
        have q2 := hg.1 ((M s).toNat / 4) (by omega)
        refine ⟨fun p hp => ?_, fun h hh p hp => ?_⟩
        · have q3 := hg.1 p hp
          show 0 ≤ mg (g (s / 4)) (g ((M s).toNat / 4)) (g p) ∧ mg (g (s / 4)) (g ((M s).toNat / 4)) (g p) ≤ (p : Int)
          unfold mg
          split
          · split <;> omega
          · exact q3
        · have e1 := hg.2 h hh p hp
          have e2 := hg.2 h hh (s / 4) (by omega)
          have e3 := hg.2 h hh ((M s).toNat / 4) (by omega)
          have e4 := hh s (by omega) hl
          show h p = h (mg (g (s / 4)) (g ((M s).toNat / 4)) (g p)).toNat
          unfold mg
          split
          · rename_i hx
            have e5 : h p = h (s / 4) := by
              rcases hx with hx | hx
              · rw [e1, hx, ← e2]
              · rw [e1, hx, ← e3, e4]
            split
            · rw [e5, e4]
              exact e3
            · rw [e5]
              exact e2
          · exact e1
      · rw [if_neg hl]
        exact hg
    · intro k hk hl
      by_cases hls : lowP M s
      · rw [if_pos hls]
        show mg _ _ (g (k / 4)) = mg _ _ (g ((M k).toNat / 4))
        by_cases hks : k = s
        · rw [hks]
          unfold mg
          rw [if_pos (Or.inl rfl), if_pos (Or.inr rfl)]
        · rw [hc k (by omega) hl]
      · rw [if_neg hls]
        by_cases hks : k = s
        · exact absurd (hks ▸ hl) hls
        · exact hc k (by omega) hl
theorem fG_inv (v : Nat → Int) : GI (fM v) (fN v) (fG v) ∧ CN (fM v) (fN v) (fG v) :=
  jg_inv (fun k _ => by have := fM_rng v k; omega) (4 * fN v) 0 _ (by omega) ⟨fun p hp => ⟨Int.natCast_nonneg _, Int.le_refl _⟩, fun h _ p _ => by rw [Int.toNat_natCast]⟩ (fun k hk => absurd hk (by omega))
/-- half of the sides at most are the lower ones of pairs -/
theorem prA_le (v : Nat → Int) : prA v (-1) ≤ 2 * (fN v : Int) := by
  have e : prA v (-1) = cpF (fM v) (4 * fN v) 0 := if_pos rfl
  have h := cp_sg (fM v) (4 * fN v) 0
  have z : sgF (fun k => b2c (lowP (fM v) k)) 0 = 0 := rfl
  rw [z, Int.add_zero, Nat.zero_add] at h
  rw [e, h]
  have hM : ∀ k, k < 4 * fN v → lowP (fM v) k → (fM v k).toNat < 4 * fN v ∧ (fM v (fM v k).toNat < ((fM v k).toNat : Int) ∧ fM v (fM v k).toNat ≠ -1 ∧ fM v (fM v (fM v k).toNat).toNat = ((fM v k).toNat : Int)) := fun k hk hl => by
    have hr := fM_rng v k
    have h1 := hl.1
    have h2 := hl.2
    refine ⟨by omega, by omega, by omega, ?_⟩
    rw [h2, Int.toNat_natCast]
    omega
  have i := inj_cnt (P := lowP (fM v)) (Q := fun j => fM v j < (j : Int) ∧ fM v j ≠ -1 ∧ fM v (fM v j).toNat = (j : Int)) (f := fun k => (fM v k).toNat) (n := 4 * fN v) (m := 4 * fN v) hM (fun k j hk hj hP hQ e => by
    have h1 := hP.2
    have h2 := hQ.2
    have e : (fM v k).toNat = (fM v j).toNat := e
    rw [e] at h1
    omega)
  have s : sgF (fun k => b2c (lowP (fM v) k)) (4 * fN v) + sgF (fun j => b2c (fM v j < (j : Int) ∧ fM v j ≠ -1 ∧ fM v (fM v j).toNat = (j : Int))) (4 * fN v) ≤ sgF (fun _ => 1) (4 * fN v) := by
    rw [← sgF_add]
    refine sg_mono _ (fun k _ => ?_)
    show b2c (lowP (fM v) k) + b2c (fM v k < (k : Int) ∧ fM v k ≠ -1 ∧ fM v (fM v k).toNat = (k : Int)) ≤ 1
    by_cases hl : lowP (fM v) k
    · rw [b2c_1 hl, b2c_0 (fun z => by have := hl.1; omega)]
      omega
    · rw [b2c_0 hl]
      rcases b2c_r (fM v k < (k : Int) ∧ fM v k ≠ -1 ∧ fM v (fM v k).toNat = (k : Int)) with h | h <;> omega
  rw [sg_c] at s
  omega
theorem gpA_sg (v : Nat → Int) : gpA v = sgF (fun k => b2c (fG v k = (k : Int))) (fN v) := by
  have h := cg_sg (fG v) (fN v) 0
  have z : sgF (fun k => b2c (fG v k = (k : Int))) 0 = 0 := rfl
  rw [z, Int.add_zero, Nat.zero_add] at h
  exact h
theorem gpA_rng {v : Nat → Int} (h : 1 ≤ fN v) : 1 ≤ gpA v ∧ gpA v ≤ fN v := by
  rw [gpA_sg]
  have hb : ∀ P : Prop, 0 ≤ b2c P ∧ b2c P ≤ 1 := fun P => by
    rcases b2c_r P with h | h <;> omega
  have g0 := (fG_inv v).1.1 0 (by omega)
  have h1 := sg_ge (a := fun k => b2c (fG v k = (k : Int))) (p := 0) (fN v) (fun q _ => (hb _).1) (by omega)
  rw [b2c_1 (show fG v 0 = ((0 : Nat) : Int) by omega)] at h1
  have h2 := sg_mono (a := fun k => b2c (fG v k = (k : Int))) (b := fun _ => 1) (fN v) (fun p _ => (hb _).2)
  rw [sg_c] at h2
  omega
theorem gpA_0 {v : Nat → Int} (h : fN v = 0) : gpA v = 0 := by
  rw [gpA_sg, h]
  rfl
theorem edA_sg (v : Nat → Int) (w : Int) : edA v w = sgF (fun s => b2c (¬ sbF (fC v) w s s 0)) (4 * fN v) := by
  have h := ce_sg (fC v) w (4 * fN v) 0
  have z : sgF (fun s => b2c (¬ sbF (fC v) w s s 0)) 0 = 0 := rfl
  rw [z, Int.add_zero, Nat.zero_add] at h
  exact h
theorem sb_iff (f : Nat → Int) (w : Int) (s : Nat) : ∀ m o, sbF f w s m o ↔ ∃ j, o ≤ j ∧ j < o + m ∧ (f j = f s ∨ w = 1 ∧ f j = rv (f s))
  | 0, o => ⟨fun h => absurd h id, fun ⟨j, h1, h2, _⟩ => absurd h2 (by omega)⟩
  | m + 1, o => by
    rw [sbF, sb_iff f w s m (o + 1)]
    constructor
    · rintro (h | ⟨j, h1, h2, h3⟩)
      · exact ⟨o, by omega, by omega, h⟩
      · exact ⟨j, by omega, by omega, h3⟩
    · rintro ⟨j, h1, h2, h3⟩
      by_cases hj : j = o
      · exact Or.inl (hj ▸ h3)
      · exact Or.inr ⟨j, by omega, by omega, h3⟩
theorem edA_01 (v : Nat → Int) : edA v 1 ≤ edA v 0 ∧ edA v 0 ≤ 4 * (fN v : Int) := by
  have hb : ∀ P : Prop, 0 ≤ b2c P ∧ b2c P ≤ 1 := fun P => by
    rcases b2c_r P with h | h <;> omega
  constructor
  · rw [edA_sg, edA_sg]
    refine sg_mono _ (fun s _ => ?_)
    show b2c (¬ sbF (fC v) 1 s s 0) ≤ b2c (¬ sbF (fC v) 0 s s 0)
    by_cases h : sbF (fC v) 0 s s 0
    · have h1 : sbF (fC v) 1 s s 0 := by
        obtain ⟨j, a, b, c⟩ := (sb_iff _ _ _ _ _).mp h
        refine (sb_iff _ _ _ _ _).mpr ⟨j, a, b, ?_⟩
        rcases c with c | c
        · exact Or.inl c
        · exact absurd c.1 (by decide)
      rw [b2c_0 (fun z => z h1)]
      exact (hb _).1
    · rw [b2c_1 h]
      exact (hb _).2
  · have h2 := sg_mono (a := fun s => b2c (¬ sbF (fC v) 0 s s 0)) (b := fun _ => 1) (4 * fN v) (fun p _ => (hb _).2)
    rw [sg_c] at h2
    rw [edA_sg]
    omega
theorem edA_0 {v : Nat → Int} {w : Int} (h : fN v = 0) : edA v w = 0 := by
  rw [edA_sg, h]
  rfl
/-- how many different values, counted by values -/
theorem ed_val {f : Nat → Int} (hf : ∀ k, 0 ≤ f k ∧ f k ≤ 255) : ∀ N, sgF (fun s => b2c (¬ sbF f 0 s s 0)) N = sgF (fun e => b2c (∃ k, k < N ∧ f k = (e : Int))) 256
  | 0 => by
    rw [sgF_z 256 (fun e _ => b2c_0 (fun ⟨k, hk, _⟩ => absurd hk (by omega)))]
    rfl
  | N + 1 => by
    rw [sgF, ed_val hf N]
    have hN := hf N
    by_cases h : sbF f 0 N N 0
    · rw [b2c_0 (fun z => z h), Int.add_zero]
      obtain ⟨j, a, b, c⟩ := (sb_iff _ _ _ _ _).mp h
      have c : f j = f N := by
        rcases c with c | c
        · exact c
        · exact absurd c.1 (by decide)
      refine sgF_cg 256 (fun e _ => b2c_g ⟨fun ⟨k, x, y⟩ => ⟨k, by omega, y⟩, fun ⟨k, x, y⟩ => ?_⟩)
      by_cases hk : k = N
      · subst hk
        exact ⟨j, by omega, c.trans y⟩
      · exact ⟨k, by omega, y⟩
    · rw [b2c_1 h]
      have hno : ¬ ∃ k, k < N ∧ f k = (((f N).toNat : Nat) : Int) := fun ⟨k, x, y⟩ => h ((sb_iff _ _ _ _ _).mpr ⟨k, by omega, by omega, Or.inl (by omega)⟩)
      have e1 : sgF (fun e => b2c (∃ k, k < N + 1 ∧ f k = (e : Int))) 256 = sgF (zup (fun e => b2c (∃ k, k < N ∧ f k = ((e : Nat) : Int))) (f N).toNat 1) 256 := sgF_cg 256 (fun e _ => by
        by_cases he : e = (f N).toNat
        · rw [he, zup_s]
          exact b2c_1 ⟨N, by omega, by omega⟩
        · rw [zup_n he]
          refine b2c_g ⟨fun ⟨k, x, y⟩ => ?_, fun ⟨k, x, y⟩ => ⟨k, by omega, y⟩⟩
          by_cases hk : k = N
          · subst hk
            omega
          · exact ⟨k, by omega, y⟩)
      rw [e1, sgF_up, if_pos (by omega), b2c_0 hno]
      omega
theorem edA_same {v u : Nat → Int} (hn : fN v = fN u) (h1 : ∀ k, k < 4 * fN v → ∃ j, j < 4 * fN v ∧ fC u j = fC v k) (h2 : ∀ k, k < 4 * fN v → ∃ j, j < 4 * fN v ∧ fC v j = fC u k) : edA v 0 = edA u 0 := by
  rw [edA_sg, edA_sg, ← hn, ed_val (fC_rng v), ed_val (fC_rng u)]
  refine sgF_cg 256 (fun e _ => b2c_g ⟨fun ⟨k, x, y⟩ => ?_, fun ⟨k, x, y⟩ => ?_⟩)
  · obtain ⟨j, a, b⟩ := h1 k x
    exact ⟨j, a, b.trans y⟩
  · obtain ⟨j, a, b⟩ := h2 k x
    exact ⟨j, a, b.trans y⟩
theorem edA_trn {v : Nat → Int} {p t : Nat} (hp : p < fN v) (ht : t < 4) : edA (vTrn v p t) 0 = edA v 0 := by
  refine (edA_same (fN_trn v p t).symm (fun k hk => ?_) (fun k hk => ?_)).symm
  · by_cases hkp : k / 4 = p
    · refine ⟨4 * p + (k % 4 + t) % 4, by omega, ?_⟩
      rw [fC_trn hp (by omega)]
      congr 1
      omega
    · refine ⟨k, hk, ?_⟩
      have h := fC_oth (v := v) (p := p) (t := t) (q := k / 4) (s := k % 4) (by omega) (by omega) hkp
      rw [show 4 * (k / 4) + k % 4 = k by omega] at h
      exact h
  · by_cases hkp : k / 4 = p
    · refine ⟨4 * p + (k % 4 + 4 - t) % 4, by omega, ?_⟩
      have h := fC_trn (v := v) (p := p) (t := t) (s := (k % 4 + 4 - t) % 4) hp (by omega)
      rw [← h]
      congr 1
      omega
    · refine ⟨k, hk, ?_⟩
      have h := fC_oth (v := v) (p := p) (t := t) (q := k / 4) (s := k % 4) (by omega) (by omega) hkp
      rw [show 4 * (k / 4) + k % 4 = k by omega] at h
      exact h.symm
/-- a mask of four -/
def m4 (a b c d : Bool) : Nat := (if a then 1 else 0) + (if b then 2 else 0) + (if c then 4 else 0) + (if d then 8 else 0)
theorem fm_4 (f : Nat → Int) (p : Nat) : fmF f p 4 = m4 (decide (f (4 * p + 0) = 0)) (decide (f (4 * p + 1) = 0)) (decide (f (4 * p + 2) = 0)) (decide (f (4 * p + 3) = 0)) := by
  rw [fmF, fmF, fmF, fmF, fmF]
  by_cases h0 : f (4 * p + 0) = 0 <;> by_cases h1 : f (4 * p + 1) = 0 <;> by_cases h2 : f (4 * p + 2) = 0 <;> by_cases h3 : f (4 * p + 3) = 0 <;> simp [h0, h1, h2, h3, m4]
theorem sr_rot : ∀ a b c d : Bool, srF (m4 b c d a : Nat) 4 0 = srF (m4 a b c d : Nat) 4 0 := by decide +kernel
theorem sr_rng : ∀ a b c d : Bool, 0 ≤ srF (m4 a b c d : Nat) 4 0 ∧ srF (m4 a b c d : Nat) 4 0 ≤ 2 ∧ (a = true → srF (m4 a b c d : Nat) 4 0 ≤ 1) := by decide +kernel
theorem sort_le (v : Nat → Int) (p : Nat) : 0 ≤ ofA v p 0 ∧ ofA v p 0 ≤ 2 ∧ (fC v (4 * p + 0) = 0 → ofA v p 0 ≤ 1) := by
  have e : ofA v p 0 = srF (fmF (fC v) p 4 : Nat) 4 0 := if_pos rfl
  rw [e, fm_4]
  have h := sr_rng (decide (fC v (4 * p + 0) = 0)) (decide (fC v (4 * p + 1) = 0)) (decide (fC v (4 * p + 2) = 0)) (decide (fC v (4 * p + 3) = 0))
  exact ⟨h.1, h.2.1, fun z => h.2.2 (decide_eq_true z)⟩
theorem sort_trn {v : Nat → Int} {p t : Nat} (hp : p < fN v) (ht : t < 4) : ofA (vTrn v p t) p 0 = ofA v p 0 := by
  have e : ∀ u, ofA u p 0 = srF (fmF (fC u) p 4 : Nat) 4 0 := fun u => if_pos rfl
  rw [e, e, fm_4, fm_4]
  have h0 := fC_trn (v := v) (p := p) (t := t) (s := 0) hp (by omega)
  have h1 := fC_trn (v := v) (p := p) (t := t) (s := 1) hp (by omega)
  have h2 := fC_trn (v := v) (p := p) (t := t) (s := 2) hp (by omega)
  have h3 := fC_trn (v := v) (p := p) (t := t) (s := 3) hp (by omega)
  have hc : t = 0 ∨ t = 1 ∨ t = 2 ∨ t = 3 := by omega
  rcases hc with rfl | rfl | rfl | rfl
  · rw [← h0, ← h1, ← h2, ← h3]
  · rw [← h0, ← h1, ← h2, ← h3, ← sr_rot]
  · rw [← h0, ← h1, ← h2, ← h3, ← sr_rot, ← sr_rot]
  · rw [← h0, ← h1, ← h2, ← h3, ← sr_rot, ← sr_rot, ← sr_rot]
