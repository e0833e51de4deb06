/-! the colours of turned and of cut pieces; a difference of 0 -/
theorem col_zor (a b i : Int) : col (zor a b) i = zor (col a i) (col b i) := by
  unfold col zand zshr zor
  simp only [Int32.ofInt_toInt]
  congr 1
  rw [Int32.shiftRight_or]
  apply Int32.toBitVec_inj.mp
  simp only [Int32.toBitVec_and, Int32.toBitVec_or]
  exact BitVec.and_or_distrib_right
theorem zshl_col : ∀ d, d < 4 → ∀ k, k < 16 → ∀ i, i < 16 → col (zshl ((d : Nat) : Int) (2 * ((k : Nat) : Int))) ((i : Nat) : Int) = if i = k then ((d : Nat) : Int) else 0 := by decide +kernel
theorem zor_0r : ∀ d, d < 4 → zor ((d : Nat) : Int) 0 = ((d : Nat) : Int) ∧ zor 0 ((d : Nat) : Int) = ((d : Nat) : Int) := by decide +kernel
/-- colours put together -/
def pkF (g : Nat → Int) : Nat → Int
  | 0 => 0
  | k + 1 => zor (pkF g k) (zshl (g k) (2 * ((k : Nat) : Int)))
theorem col_00 : ∀ i, i < 16 → col 0 ((i : Nat) : Int) = 0 := by decide +kernel
theorem col_pk {g : Nat → Int} (hg : ∀ k, k < 16 → 0 ≤ g k ∧ g k ≤ 3) : ∀ k, k ≤ 16 → ∀ i : Nat, i < 16 → col (pkF g k) (i : Int) = if i < k then g i else 0
  | 0, _, i, hi => by
    rw [if_neg (by omega)]
    exact col_00 i hi
  | k + 1, hk, i, hi => by
    rw [pkF, col_zor, col_pk hg k (by omega) i hi]
    obtain ⟨d, hd⟩ := Int.eq_ofNat_of_zero_le (hg k (by omega)).1
    have hd4 : d < 4 := by have := (hg k (by omega)).2; omega
    have h1 := zshl_col d hd4 k (by omega) i hi
    rw [hd, h1]
    by_cases h : i < k
    · obtain ⟨e, he⟩ := Int.eq_ofNat_of_zero_le (hg i hi).1
      have he4 : e < 4 := by have := (hg i hi).2; omega
      rw [if_pos h, if_neg (by omega), if_pos (by omega), he]
      exact (zor_0r e he4).1
    · rw [if_neg h]
      by_cases h2 : i = k
      · subst h2
        rw [if_pos rfl, if_pos (by omega), hd]
        exact (zor_0r d hd4).2
      · rw [if_neg h2, if_neg (by omega)]
        exact (zor_0r 0 (by decide)).1
def tT (b : Int) (i j : Nat) : Int := zshl (col b i) (2 * (j : Int))
def qrF (b : Int) : Nat → Int
  | 0 => 0
  | k + 1 => zor (qrF b k) (tT b (4 * (3 - k % 4) + k / 4) k)
theorem tqF_s (b : Int) (n : Nat) (h : n < 16) : tqF b (n + 1) = zor (tqF b n) (tT b n (4 * (n % 4) + 3 - n / 4)) := by
  rw [tqF]
  have e1 : 4 * ((n / 4 : Nat) : Int) + ((n % 4 : Nat) : Int) = (n : Int) := by omega
  have e2 : 2 * (4 * ((n % 4 : Nat) : Int) + 3 - ((n / 4 : Nat) : Int)) = 2 * ((4 * (n % 4) + 3 - n / 4 : Nat) : Int) := by omega
  rw [e1, e2]
  rfl
theorem qr_tq (b : Int) : qrF b 16 = tq b := by
  have a0 : tqF b 1 = zor (tqF b 0) (tT b 0 3) := tqF_s b 0 (by decide)
  have a1 : tqF b 2 = zor (tqF b 1) (tT b 1 7) := tqF_s b 1 (by decide)
  have a2 : tqF b 3 = zor (tqF b 2) (tT b 2 11) := tqF_s b 2 (by decide)
  have a3 : tqF b 4 = zor (tqF b 3) (tT b 3 15) := tqF_s b 3 (by decide)
  have a4 : tqF b 5 = zor (tqF b 4) (tT b 4 2) := tqF_s b 4 (by decide)
  have a5 : tqF b 6 = zor (tqF b 5) (tT b 5 6) := tqF_s b 5 (by decide)
  have a6 : tqF b 7 = zor (tqF b 6) (tT b 6 10) := tqF_s b 6 (by decide)
  have a7 : tqF b 8 = zor (tqF b 7) (tT b 7 14) := tqF_s b 7 (by decide)
  have a8 : tqF b 9 = zor (tqF b 8) (tT b 8 1) := tqF_s b 8 (by decide)
  have a9 : tqF b 10 = zor (tqF b 9) (tT b 9 5) := tqF_s b 9 (by decide)
  have a10 : tqF b 11 = zor (tqF b 10) (tT b 10 9) := tqF_s b 10 (by decide)
  have a11 : tqF b 12 = zor (tqF b 11) (tT b 11 13) := tqF_s b 11 (by decide)
  have a12 : tqF b 13 = zor (tqF b 12) (tT b 12 0) := tqF_s b 12 (by decide)
  have a13 : tqF b 14 = zor (tqF b 13) (tT b 13 4) := tqF_s b 13 (by decide)
  have a14 : tqF b 15 = zor (tqF b 14) (tT b 14 8) := tqF_s b 14 (by decide)
  have a15 : tqF b 16 = zor (tqF b 15) (tT b 15 12) := tqF_s b 15 (by decide)
  have c0 : qrF b 1 = zor (qrF b 0) (tT b 12 0) := rfl
  have c1 : qrF b 2 = zor (qrF b 1) (tT b 8 1) := rfl
  have c2 : qrF b 3 = zor (qrF b 2) (tT b 4 2) := rfl
  have c3 : qrF b 4 = zor (qrF b 3) (tT b 0 3) := rfl
  have c4 : qrF b 5 = zor (qrF b 4) (tT b 13 4) := rfl
  have c5 : qrF b 6 = zor (qrF b 5) (tT b 9 5) := rfl
  have c6 : qrF b 7 = zor (qrF b 6) (tT b 5 6) := rfl
  have c7 : qrF b 8 = zor (qrF b 7) (tT b 1 7) := rfl
  have c8 : qrF b 9 = zor (qrF b 8) (tT b 14 8) := rfl
  have c9 : qrF b 10 = zor (qrF b 9) (tT b 10 9) := rfl
  have c10 : qrF b 11 = zor (qrF b 10) (tT b 6 10) := rfl
  have c11 : qrF b 12 = zor (qrF b 11) (tT b 2 11) := rfl
  have c12 : qrF b 13 = zor (qrF b 12) (tT b 15 12) := rfl
  have c13 : qrF b 14 = zor (qrF b 13) (tT b 11 13) := rfl
  have c14 : qrF b 15 = zor (qrF b 14) (tT b 7 14) := rfl
  have c15 : qrF b 16 = zor (qrF b 15) (tT b 3 15) := rfl
  have a : tqF b 0 = 0 := rfl
  have c : qrF b 0 = 0 := rfl
  show qrF b 16 = tqF b 16
  rw [c15, c14, c13, c12, c11, c10, c9, c8, c7, c6, c5, c4, c3, c2, c1, c0, c, a15, a14, a13, a12, a11, a10, a9, a8, a7, a6, a5, a4, a3, a2, a1, a0, a]
  unfold zor
  simp only [Int32.ofInt_toInt]
  generalize Int32.ofInt (tT b 0 3) = t0
  generalize Int32.ofInt (tT b 1 7) = t1
  generalize Int32.ofInt (tT b 2 11) = t2
  generalize Int32.ofInt (tT b 3 15) = t3
  generalize Int32.ofInt (tT b 4 2) = t4
  generalize Int32.ofInt (tT b 5 6) = t5
  generalize Int32.ofInt (tT b 6 10) = t6
  generalize Int32.ofInt (tT b 7 14) = t7
  generalize Int32.ofInt (tT b 8 1) = t8
  generalize Int32.ofInt (tT b 9 5) = t9
  generalize Int32.ofInt (tT b 10 9) = t10
  generalize Int32.ofInt (tT b 11 13) = t11
  generalize Int32.ofInt (tT b 12 0) = t12
  generalize Int32.ofInt (tT b 13 4) = t13
  generalize Int32.ofInt (tT b 14 8) = t14
  generalize Int32.ofInt (tT b 15 12) = t15
  congr 1
  ac_rfl
theorem qr_pk (b : Int) : ∀ k, qrF b k = pkF (fun k => col b ((4 * (3 - k % 4) + k / 4 : Nat) : Int)) k
  | 0 => rfl
  | k + 1 => by
    rw [qrF, pkF, qr_pk b k]
    rfl
theorem col_tq (c : Int) (i : Nat) (hi : i < 16) : col (tq c) (i : Int) = col c ((4 * (3 - i % 4) + i / 4 : Nat) : Int) := by
  rw [← qr_tq, qr_pk, col_pk (fun k _ => col_rng _ _) 16 (by omega) i hi, if_pos hi]
theorem rim_tq : ∀ s, s < 4 → ∀ k, k < 4 → ∃ i, i < 16 ∧ rimI (4 * ((s + 1) % 4) + k) = ((i : Nat) : Int) ∧ rimI (4 * s + k) = ((4 * (3 - i % 4) + i / 4 : Nat) : Int) := by decide +kernel
theorem eg_4 (c : Int) (s : Nat) : eg c s = 4 * (4 * (4 * (4 * 0 + col c (rimI (4 * s + 0))) + col c (rimI (4 * s + 1))) + col c (rimI (4 * s + 2))) + col c (rimI (4 * s + 3)) := rfl
theorem eg_tq (c : Int) (s : Nat) (hs : s < 4) : eg (tq c) ((s + 1) % 4) = eg c s := by
  have h : ∀ k, k < 4 → col (tq c) (rimI (4 * ((s + 1) % 4) + k)) = col c (rimI (4 * s + k)) := fun k hk => by
    obtain ⟨i, hi, e1, e2⟩ := rim_tq s hs k hk
    rw [e1, e2]
    exact col_tq c i hi
  rw [eg_4, eg_4, h 0 (by omega), h 1 (by omega), h 2 (by omega), h 3 (by omega)]
theorem eg_tqs (c : Int) (s : Nat) (hs : s < 4) : ∀ t, eg (tqs c t) ((s + t) % 4) = eg c s
  | 0 => by rw [Nat.add_zero, Nat.mod_eq_of_lt hs]; rfl
  | t + 1 => by
    have h := eg_tq (tqs c t) ((s + t) % 4) (by omega)
    rw [show ((s + t) % 4 + 1) % 4 = (s + (t + 1)) % 4 by omega, eg_tqs c s hs t] at h
    exact h
theorem ct_pk (g : Nat → Int) (C lf tp : Nat) : ∀ k, ctF g C lf tp k = pkF (fun i => g (C * (tp + i / 4) + lf + i % 4)) k
  | 0 => rfl
  | k + 1 => by
    rw [ctF, pkF, ct_pk g C lf tp k]
theorem col_ct {g : Nat → Int} (C lf tp i : Nat) (hg : ∀ k, 0 ≤ g k ∧ g k ≤ 3) (hi : i < 16) : col (ctF g C lf tp 16) (i : Int) = g (C * (tp + i / 4) + lf + i % 4) := by
  rw [ct_pk, col_pk (fun k _ => hg _) 16 (by omega) i hi, if_pos hi]
theorem col_dig : ∀ e, e < 256 → ∀ i, i < 4 → col ((e : Nat) : Int) ((i : Nat) : Int) = ((e / 4 ^ i % 4 : Nat) : Int) := by decide +kernel
theorem rv_dig : ∀ e, e < 256 → rv ((e : Nat) : Int) = ((64 * (e % 4) + 16 * (e / 4 % 4) + 4 * (e / 16 % 4) + e / 64 % 4 : Nat) : Int) := by decide +kernel
theorem ab_nn (x : Int) : 0 ≤ ab x := by
  unfold ab
  split <;> omega
theorem ab_00 {x : Int} (h : ab x = 0) : x = 0 := by
  unfold ab at h
  split at h <;> omega
theorem dif_rng (a b : Int) : 0 ≤ dif a b ∧ dif a b ≤ 12 := by
  have := difF_rng a b 4 0
  unfold dif
  omega
theorem dif_4 (a b : Nat) (ha : a < 256) (hb : b < 256) : dif ((a : Nat) : Int) ((b : Nat) : Int) = ab (((a / 64 % 4 : Nat) : Int) - ((b % 4 : Nat) : Int)) + (ab (((a / 16 % 4 : Nat) : Int) - ((b / 4 % 4 : Nat) : Int)) + (ab (((a / 4 % 4 : Nat) : Int) - ((b / 16 % 4 : Nat) : Int)) + ab (((a % 4 : Nat) : Int) - ((b / 64 % 4 : Nat) : Int)))) := by
  have a0 : col (a : Int) (3 - ((0 : Nat) : Int)) = ((a / 64 % 4 : Nat) : Int) := col_dig a ha 3 (by omega)
  have a1 : col (a : Int) (3 - ((1 : Nat) : Int)) = ((a / 16 % 4 : Nat) : Int) := col_dig a ha 2 (by omega)
  have a2 : col (a : Int) (3 - ((2 : Nat) : Int)) = ((a / 4 % 4 : Nat) : Int) := col_dig a ha 1 (by omega)
  have a3 : col (a : Int) (3 - ((3 : Nat) : Int)) = ((a / 1 % 4 : Nat) : Int) := col_dig a ha 0 (by omega)
  have b0 : col (b : Int) ((0 : Nat) : Int) = ((b / 1 % 4 : Nat) : Int) := col_dig b hb 0 (by omega)
  have b1 : col (b : Int) ((1 : Nat) : Int) = ((b / 4 % 4 : Nat) : Int) := col_dig b hb 1 (by omega)
  have b2 : col (b : Int) ((2 : Nat) : Int) = ((b / 16 % 4 : Nat) : Int) := col_dig b hb 2 (by omega)
  have b3 : col (b : Int) ((3 : Nat) : Int) = ((b / 64 % 4 : Nat) : Int) := col_dig b hb 3 (by omega)
  show ab (col (a : Int) (3 - ((0 : Nat) : Int)) - col (b : Int) ((0 : Nat) : Int)) + (ab (col (a : Int) (3 - ((1 : Nat) : Int)) - col (b : Int) ((1 : Nat) : Int)) + (ab (col (a : Int) (3 - ((2 : Nat) : Int)) - col (b : Int) ((2 : Nat) : Int)) + (ab (col (a : Int) (3 - ((3 : Nat) : Int)) - col (b : Int) ((3 : Nat) : Int)) + 0))) = _
  rw [a0, a1, a2, a3, b0, b1, b2, b3, Nat.div_one, Nat.div_one, Int.add_zero]
theorem dig4 : ∀ a, a < 256 → a = 64 * (a / 64 % 4) + 16 * (a / 16 % 4) + 4 * (a / 4 % 4) + a % 4 := by decide +kernel
theorem dif_0 {a b : Int} (ha : 0 ≤ a ∧ a ≤ 255) (hb : 0 ≤ b ∧ b ≤ 255) : dif a b = 0 ↔ a = rv b := by
  obtain ⟨a, rfl⟩ := Int.eq_ofNat_of_zero_le ha.1
  obtain ⟨b, rfl⟩ := Int.eq_ofNat_of_zero_le hb.1
  rw [dif_4 a b (by omega) (by omega), rv_dig b (by omega)]
  have ea := dig4 a (by omega)
  have l3 : a / 64 % 4 < 4 := Nat.mod_lt _ (by decide)
  have l2 : a / 16 % 4 < 4 := Nat.mod_lt _ (by decide)
  have l1 : a / 4 % 4 < 4 := Nat.mod_lt _ (by decide)
  have l0 : a % 4 < 4 := Nat.mod_lt _ (by decide)
  have k3 : b / 64 % 4 < 4 := Nat.mod_lt _ (by decide)
  have k2 : b / 16 % 4 < 4 := Nat.mod_lt _ (by decide)
  have k1 : b / 4 % 4 < 4 := Nat.mod_lt _ (by decide)
  have k0 : b % 4 < 4 := Nat.mod_lt _ (by decide)
  generalize a / 64 % 4 = a3 at ea l3 ⊢
  generalize a / 16 % 4 = a2 at ea l2 ⊢
  generalize a / 4 % 4 = a1 at ea l1 ⊢
  generalize a % 4 = a0 at ea l0 ⊢
  generalize b / 64 % 4 = b3 at k3 ⊢
  generalize b / 16 % 4 = b2 at k2 ⊢
  generalize b / 4 % 4 = b1 at k1 ⊢
  generalize b % 4 = b0 at k0 ⊢
  have n0 := ab_nn ((a3 : Int) - (b0 : Int))
  have n1 := ab_nn ((a2 : Int) - (b1 : Int))
  have n2 := ab_nn ((a1 : Int) - (b2 : Int))
  have n3 := ab_nn ((a0 : Int) - (b3 : Int))
  constructor
  · intro h
    have z0 := ab_00 (show ab ((a3 : Int) - (b0 : Int)) = 0 by omega)
    have z1 := ab_00 (show ab ((a2 : Int) - (b1 : Int)) = 0 by omega)
    have z2 := ab_00 (show ab ((a1 : Int) - (b2 : Int)) = 0 by omega)
    have z3 := ab_00 (show ab ((a0 : Int) - (b3 : Int)) = 0 by omega)
    omega
  · intro h
    have z : ab 0 = 0 := rfl
    rw [show (a3 : Int) - (b0 : Int) = 0 by omega, show (a2 : Int) - (b1 : Int) = 0 by omega, show (a1 : Int) - (b2 : Int) = 0 by omega, show (a0 : Int) - (b3 : Int) = 0 by omega, z]
    rfl
/-- an edge backwards, as the law makes it -/
def bkL (b : Int) : Int := zor (zor (zor (zand (zshr b 6) 3) (zand (zshr b 2) 12)) (zand (zshl b 2) 48)) (zand (zshl b 6) 192)
theorem bk_rv : ∀ e, e < 256 → bkL ((e : Nat) : Int) = rv ((e : Nat) : Int) := by decide +kernel
theorem fC_k {v : Nat → Int} {k : Nat} (hk : k < 4 * fN v) : fC v k = eg (v (1 + k / 4)) (k % 4) := by
  show eg (nrm (v 0).toNat (fun p => v (1 + p)) (k / 4)) (k % 4) = _
  have h : k / 4 < (v 0).toNat := by
    unfold fN at hk
    omega
  rw [nrm_at h]
theorem fC_ps {v : Nat → Int} {p s : Nat} (hp : p < fN v) (hs : s < 4) : fC v (4 * p + s) = eg (v (1 + p)) s := by
  rw [fC_k (by omega), show (4 * p + s) / 4 = p by omega, show (4 * p + s) % 4 = s by omega]
/-- a piece turned in a state -/
def vTrn (v : Nat → Int) (p t : Nat) : Nat → Int := zup v (1 + p) (tqs (v (1 + p)) t)
theorem vTrn_0 (v : Nat → Int) (p t : Nat) : vTrn v p t 0 = v 0 := zup_n (by omega)
theorem fN_trn (v : Nat → Int) (p t : Nat) : fN (vTrn v p t) = fN v := by
  unfold fN
  rw [vTrn_0]
theorem fC_trn {v : Nat → Int} {p t s : Nat} (hp : p < fN v) (hs : s < 4) : fC (vTrn v p t) (4 * p + (s + t) % 4) = fC v (4 * p + s) := by
  rw [fC_ps (by rw [fN_trn]; exact hp) (by omega), fC_ps hp hs]
  show eg (zup v (1 + p) (tqs (v (1 + p)) t) (1 + p)) ((s + t) % 4) = _
  rw [zup_s]
  exact eg_tqs _ s hs t
theorem fC_oth {v : Nat → Int} {p t q s : Nat} (hq : q < fN v) (hs : s < 4) (hqp : q ≠ p) : fC (vTrn v p t) (4 * q + s) = fC v (4 * q + s) := by
  rw [fC_ps (by rw [fN_trn]; exact hq) hs, fC_ps hq hs]
  show eg (zup v (1 + p) (tqs (v (1 + p)) t) (1 + q)) s = _
  rw [zup_n (by omega)]
