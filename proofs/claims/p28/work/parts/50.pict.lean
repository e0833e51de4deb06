/-! the generated picture: laid as it was cut it costs nothing and fits its frame -/
def swp (a b j : Nat) : Nat := if j = a then b else if j = b then a else j
theorem swp_2 (a b j : Nat) : swp a b (swp a b j) = j := by
  by_cases h1 : j = a
  · have e : swp a b j = b := if_pos h1
    rw [e]
    by_cases h2 : b = a
    · have e2 : swp a b b = b := if_pos h2
      rw [e2]
      omega
    · have e2 : swp a b b = a := by
        unfold swp
        rw [if_neg h2, if_pos rfl]
      rw [e2]
      omega
  · by_cases h2 : j = b
    · have e : swp a b j = a := by
        unfold swp
        rw [if_neg h1, if_pos h2]
      have e2 : swp a b a = b := if_pos rfl
      rw [e, e2]
      omega
    · have e : swp a b j = j := by
        unfold swp
        rw [if_neg h1, if_neg h2]
      rw [e, e]
theorem swp_lt {a b j N : Nat} (ha : a < N) (hb : b < N) (hj : j < N) : swp a b j < N := by
  unfold swp
  split
  · exact hb
  · split
    · exact ha
    · exact hj
theorem zup_swp (c : Nat → Int) (a b j : Nat) : zup (zup c b (c a)) a (c b) j = c (swp a b j) := by
  unfold swp
  by_cases h1 : j = a
  · rw [if_pos h1, h1, zup_s]
  · rw [if_neg h1, zup_n h1]
    by_cases h2 : j = b
    · rw [if_pos h2, h2, zup_s]
    · rw [if_neg h2, zup_n h2]
theorem mx_perm {N : Nat} : ∀ (i : Nat) (x : Int) (c : Nat → Int), i < N → ∃ σ τ : Nat → Nat, (∀ j, j < N → σ j < N) ∧ (∀ p, p < N → τ p < N ∧ σ (τ p) = p) ∧ ∀ j, j < N → (mxF i x c).2 j = c (σ j)
  | 0, x, c, hi => ⟨id, id, fun j hj => hj, fun p hp => ⟨hp, rfl⟩, fun j hj => rfl⟩
  | i + 1, x, c, hi => by
    have hmN : (nxt x / 65536 % ((i : Int) + 2)).toNat < N := by
      have := Int.emod_lt_of_pos (nxt x / 65536) (show 0 < (i : Int) + 2 by omega)
      omega
    rw [mxF]
    generalize (nxt x / 65536 % ((i : Int) + 2)).toNat = m at hmN
    obtain ⟨σ, τ, h1, h2, h3⟩ := mx_perm (N := N) i (nxt x) (zup (zup c (i + 1) (c m)) m (c (i + 1))) (by omega)
    refine ⟨fun j => swp m (i + 1) (σ j), fun p => τ (swp m (i + 1) p), fun j hj => swp_lt hmN hi (h1 j hj), fun p hp => ⟨(h2 _ (swp_lt hmN hi hp)).1, ?_⟩, fun j hj => ?_⟩
    · show swp m (i + 1) (σ (τ (swp m (i + 1) p))) = p
      rw [(h2 _ (swp_lt hmN hi hp)).2, swp_2]
    · rw [h3 j hj, zup_swp]
theorem pC_rng (C R : Nat) (s : Int) (k : Nat) : 0 ≤ pC C R s k ∧ pC C R s k ≤ 3 := by
  unfold pC
  split <;> omega
theorem pC_in {C R : Nat} {s : Int} {k : Nat} (h : inn C R k) : 1 ≤ pC C R s k := by
  unfold pC
  rw [if_pos h]
  omega
theorem pC_out {C R : Nat} {s : Int} {k : Nat} (h : ¬ inn C R k) : pC C R s k = 0 := if_neg h
/-- the piece cut at place p of 4 by h -/
def cutP (h : Nat) (s : Int) (p : Nat) : Int := ctF (pC 13 (3 * h + 1) s) 13 (3 * (p % 4)) (3 * (p / 4)) 16
theorem cut_col (h : Nat) (s : Int) (p x y : Nat) (hx : x < 4) (hy : y < 4) : col (cutP h s p) ((4 * y + x : Nat) : Int) = pC 13 (3 * h + 1) s (13 * (3 * (p / 4) + y) + 3 * (p % 4) + x) := by
  rw [cutP, col_ct 13 _ _ (4 * y + x) (pC_rng _ _ _) (by omega), show (4 * y + x) / 4 = y by omega, show (4 * y + x) % 4 = x by omega]
theorem rim_xy : ∀ k, k < 4 → rimI (4 * 0 + k) = ((4 * 0 + k : Nat) : Int) ∧ rimI (4 * 1 + k) = ((4 * k + 3 : Nat) : Int) ∧ rimI (4 * 2 + k) = ((4 * 3 + (3 - k) : Nat) : Int) ∧ rimI (4 * 3 + k) = ((4 * (3 - k) + 0 : Nat) : Int) := by decide
/-- colour k of side s of the piece cut at p -/
def dgP (h : Nat) (s : Int) (p q k : Nat) : Int := col (cutP h s p) (rimI (4 * q + k))
theorem dg_0 (h : Nat) (s : Int) (p k : Nat) (hk : k < 4) : dgP h s p 0 k = pC 13 (3 * h + 1) s (13 * (3 * (p / 4) + 0) + 3 * (p % 4) + k) := by
  rw [dgP, (rim_xy k hk).1, cut_col h s p k 0 hk (by omega)]
theorem dg_1 (h : Nat) (s : Int) (p k : Nat) (hk : k < 4) : dgP h s p 1 k = pC 13 (3 * h + 1) s (13 * (3 * (p / 4) + k) + 3 * (p % 4) + 3) := by
  rw [dgP, (rim_xy k hk).2.1, cut_col h s p 3 k (by omega) hk]
theorem dg_2 (h : Nat) (s : Int) (p k : Nat) (hk : k < 4) : dgP h s p 2 k = pC 13 (3 * h + 1) s (13 * (3 * (p / 4) + 3) + 3 * (p % 4) + (3 - k)) := by
  rw [dgP, (rim_xy k hk).2.2.1, cut_col h s p (3 - k) 3 (by omega) (by omega)]
theorem dg_3 (h : Nat) (s : Int) (p k : Nat) (hk : k < 4) : dgP h s p 3 k = pC 13 (3 * h + 1) s (13 * (3 * (p / 4) + (3 - k)) + 3 * (p % 4) + 0) := by
  rw [dgP, (rim_xy k hk).2.2.2, cut_col h s p 0 (3 - k) (by omega) (by omega)]
theorem col_eg (c : Int) (s : Nat) : ∀ k, k < 4 → col (eg c s) ((3 - k : Nat) : Int) = col c (rimI (4 * s + k)) := by
  have h0 := col_rng c (rimI (4 * s + 0))
  have h1 := col_rng c (rimI (4 * s + 1))
  have h2 := col_rng c (rimI (4 * s + 2))
  have h3 := col_rng c (rimI (4 * s + 3))
  have hr := eg_rng c s
  obtain ⟨e, he⟩ := Int.eq_ofNat_of_zero_le hr.1
  have hE : (e : Int) = 4 * (4 * (4 * (4 * 0 + col c (rimI (4 * s + 0))) + col c (rimI (4 * s + 1))) + col c (rimI (4 * s + 2))) + col c (rimI (4 * s + 3)) := by
    rw [← he]
    rfl
  intro k hk
  rw [he, col_dig e (by omega) (3 - k) (by omega)]
  have hc : k = 0 ∨ k = 1 ∨ k = 2 ∨ k = 3 := by omega
  rcases hc with rfl | rfl | rfl | rfl
  · show ((e / 64 % 4 : Nat) : Int) = _
    omega
  · show ((e / 16 % 4 : Nat) : Int) = _
    omega
  · show ((e / 4 % 4 : Nat) : Int) = _
    omega
  · show ((e / 1 % 4 : Nat) : Int) = _
    omega
theorem dif_eg {c c' : Int} {s s' : Nat} (h : ∀ k, k < 4 → col c (rimI (4 * s + k)) = col c' (rimI (4 * s' + (3 - k)))) : dif (eg c s) (eg c' s') = 0 := by
  have a0 : col (eg c s) (3 - ((0 : Nat) : Int)) = col c (rimI (4 * s + 0)) := col_eg c s 0 (by omega)
  have a1 : col (eg c s) (3 - ((1 : Nat) : Int)) = col c (rimI (4 * s + 1)) := col_eg c s 1 (by omega)
  have a2 : col (eg c s) (3 - ((2 : Nat) : Int)) = col c (rimI (4 * s + 2)) := col_eg c s 2 (by omega)
  have a3 : col (eg c s) (3 - ((3 : Nat) : Int)) = col c (rimI (4 * s + 3)) := col_eg c s 3 (by omega)
  have b0 : col (eg c' s') ((0 : Nat) : Int) = col c' (rimI (4 * s' + 3)) := col_eg c' s' 3 (by omega)
  have b1 : col (eg c' s') ((1 : Nat) : Int) = col c' (rimI (4 * s' + 2)) := col_eg c' s' 2 (by omega)
  have b2 : col (eg c' s') ((2 : Nat) : Int) = col c' (rimI (4 * s' + 1)) := col_eg c' s' 1 (by omega)
  have b3 : col (eg c' s') ((3 : Nat) : Int) = col c' (rimI (4 * s' + 0)) := col_eg c' s' 0 (by omega)
  have h0 : col c (rimI (4 * s + 0)) = col c' (rimI (4 * s' + 3)) := h 0 (by omega)
  have h1 : col c (rimI (4 * s + 1)) = col c' (rimI (4 * s' + 2)) := h 1 (by omega)
  have h2 : col c (rimI (4 * s + 2)) = col c' (rimI (4 * s' + 1)) := h 2 (by omega)
  have h3 : col c (rimI (4 * s + 3)) = col c' (rimI (4 * s' + 0)) := h 3 (by omega)
  show ab (col (eg c s) (3 - ((0 : Nat) : Int)) - col (eg c' s') ((0 : Nat) : Int)) + (ab (col (eg c s) (3 - ((1 : Nat) : Int)) - col (eg c' s') ((1 : Nat) : Int)) + (ab (col (eg c s) (3 - ((2 : Nat) : Int)) - col (eg c' s') ((2 : Nat) : Int)) + (ab (col (eg c s) (3 - ((3 : Nat) : Int)) - col (eg c' s') ((3 : Nat) : Int)) + 0))) = 0
  rw [a0, a1, a2, a3, b0, b1, b2, b3, h0, h1, h2, h3, Int.sub_self, Int.sub_self, Int.sub_self, Int.sub_self]
  rfl
theorem tou_1 (h : Nat) (s : Int) {p q : Nat} (hp : p % 4 < 3) (hq : q = p + 1) : dif (eg (cutP h s p) 1) (eg (cutP h s q) 3) = 0 := dif_eg (fun k hk => by
  show dgP h s p 1 k = dgP h s q 3 (3 - k)
  rw [dg_1 h s p k hk, dg_3 h s q (3 - k) (by omega)]
  congr 1
  omega)
theorem tou_2 (h : Nat) (s : Int) {p q : Nat} (hq : q = p + 4) : dif (eg (cutP h s p) 2) (eg (cutP h s q) 0) = 0 := dif_eg (fun k hk => by
  show dgP h s p 2 k = dgP h s q 0 (3 - k)
  rw [dg_2 h s p k hk, dg_0 h s q (3 - k) (by omega)]
  congr 1
  omega)
theorem tou (h : Nat) (s : Int) {p j q : Nat} (hq : q < 4) (hn : nb 4 ((4 * h : Nat) : Int) p q = (j : Int)) : dif (eg (cutP h s p) q) (eg (cutP h s j) ((q + 2) % 4)) = 0 := by
  have hc : q = 0 ∨ q = 1 ∨ q = 2 ∨ q = 3 := by omega
  rcases hc with rfl | rfl | rfl | rfl
  · have e : nb 4 ((4 * h : Nat) : Int) p ((0 : Nat) : Int) = if (4 : Int) ≤ p then (p : Int) - 4 else -1 := rfl
    rw [e] at hn
    split at hn
    · rw [dif_comm]
      exact tou_2 h s (by omega)
    · omega
  · have e : nb 4 ((4 * h : Nat) : Int) p ((1 : Nat) : Int) = if (p : Int) % 4 < 4 - 1 then (p : Int) + 1 else -1 := rfl
    rw [e] at hn
    split at hn
    · exact tou_1 h s (by omega) (by omega)
    · omega
  · have e : nb 4 ((4 * h : Nat) : Int) p ((2 : Nat) : Int) = if (p : Int) + 4 < ((4 * h : Nat) : Int) then (p : Int) + 4 else -1 := rfl
    rw [e] at hn
    split at hn
    · exact tou_2 h s (by omega)
    · omega
  · have e : nb 4 ((4 * h : Nat) : Int) p ((3 : Nat) : Int) = if 0 < (p : Int) % 4 then (p : Int) - 1 else -1 := rfl
    rw [e] at hn
    split at hn
    · rw [dif_comm]
      exact tou_1 h s (by omega) (by omega)
    · omega
theorem eg_dg (h : Nat) (s : Int) (p q : Nat) : eg (cutP h s p) q = 64 * dgP h s p q 0 + 16 * dgP h s p q 1 + 4 * dgP h s p q 2 + dgP h s p q 3 := by
  rw [eg_4]
  unfold dgP
  omega
theorem dg_rng (h : Nat) (s : Int) (p q k : Nat) : 0 ≤ dgP h s p q k ∧ dgP h s p q k ≤ 3 := col_rng _ _
theorem eg_z {h : Nat} {s : Int} {p q : Nat} (hd : ∀ k, k < 4 → dgP h s p q k = 0) : eg (cutP h s p) q = 0 := by
  rw [eg_dg, hd 0 (by omega), hd 1 (by omega), hd 2 (by omega), hd 3 (by omega)]
  rfl
theorem eg_nz {h : Nat} {s : Int} {p q : Nat} (hd : 1 ≤ dgP h s p q 1) : eg (cutP h s p) q ≠ 0 := by
  have h0 := dg_rng h s p q 0
  have h2 := dg_rng h s p q 2
  have h3 := dg_rng h s p q 3
  rw [eg_dg]
  omega
theorem frm (h : Nat) (s : Int) {p q : Nat} (hp : p < 4 * h) (hq : q < 4) : nb 4 ((4 * h : Nat) : Int) p q = -1 ↔ eg (cutP h s p) q = 0 := by
  have hc : q = 0 ∨ q = 1 ∨ q = 2 ∨ q = 3 := by omega
  rcases hc with rfl | rfl | rfl | rfl
  · have e : nb 4 ((4 * h : Nat) : Int) p ((0 : Nat) : Int) = if (4 : Int) ≤ p then (p : Int) - 4 else -1 := rfl
    rw [e]
    by_cases c : (4 : Int) ≤ p
    · rw [if_pos c]
      refine ⟨fun z => by omega, fun z => absurd z (eg_nz ?_)⟩
      rw [dg_0 h s p 1 (by omega)]
      exact pC_in (by unfold inn; omega)
    · rw [if_neg c]
      refine ⟨fun _ => eg_z (fun k hk => ?_), fun _ => rfl⟩
      rw [dg_0 h s p k hk]
      exact pC_out (by unfold inn; omega)
  · have e : nb 4 ((4 * h : Nat) : Int) p ((1 : Nat) : Int) = if (p : Int) % 4 < 4 - 1 then (p : Int) + 1 else -1 := rfl
    rw [e]
    by_cases c : (p : Int) % 4 < 4 - 1
    · rw [if_pos c]
      refine ⟨fun z => by omega, fun z => absurd z (eg_nz ?_)⟩
      rw [dg_1 h s p 1 (by omega)]
      have e1 : (13 * (3 * (p / 4) + 1) + 3 * (p % 4) + 3) / 13 = 3 * (p / 4) + 1 := by omega
      have e2 : (13 * (3 * (p / 4) + 1) + 3 * (p % 4) + 3) % 13 = 3 * (p % 4) + 3 := by omega
      exact pC_in (by
        unfold inn
        rw [e1, e2]
        omega)
    · rw [if_neg c]
      refine ⟨fun _ => eg_z (fun k hk => ?_), fun _ => rfl⟩
      rw [dg_1 h s p k hk]
      exact pC_out (by unfold inn; omega)
  · have e : nb 4 ((4 * h : Nat) : Int) p ((2 : Nat) : Int) = if (p : Int) + 4 < ((4 * h : Nat) : Int) then (p : Int) + 4 else -1 := rfl
    rw [e]
    by_cases c : (p : Int) + 4 < ((4 * h : Nat) : Int)
    · rw [if_pos c]
      refine ⟨fun z => by omega, fun z => absurd z (eg_nz ?_)⟩
      rw [dg_2 h s p 1 (by omega)]
      exact pC_in (by unfold inn; omega)
    · rw [if_neg c]
      refine ⟨fun _ => eg_z (fun k hk => ?_), fun _ => rfl⟩
      rw [dg_2 h s p k hk]
      exact pC_out (by unfold inn; omega)
  · have e : nb 4 ((4 * h : Nat) : Int) p ((3 : Nat) : Int) = if 0 < (p : Int) % 4 then (p : Int) - 1 else -1 := rfl
    rw [e]
    by_cases c : 0 < (p : Int) % 4
    · rw [if_pos c]
      refine ⟨fun z => by omega, fun z => absurd z (eg_nz ?_)⟩
      rw [dg_3 h s p 1 (by omega)]
      have e1 : (13 * (3 * (p / 4) + (3 - 1)) + 3 * (p % 4) + 0) / 13 = 3 * (p / 4) + (3 - 1) := by omega
      have e2 : (13 * (3 * (p / 4) + (3 - 1)) + 3 * (p % 4) + 0) % 13 = 3 * (p % 4) + 0 := by omega
      exact pC_in (by
        unfold inn
        rw [e1, e2]
        omega)
    · rw [if_neg c]
      refine ⟨fun _ => eg_z (fun k hk => ?_), fun _ => rfl⟩
      rw [dg_3 h s p k hk]
      exact pC_out (by unfold inn; omega)
theorem sdT_4 {k q : Nat} (hq : q < 4) : (sdT (4 * (k : Int)) ((q : Nat) : Int)).toNat = 4 * k + q := by
  unfold sdT
  omega
section PI
variable {u : Nat → Int} {h : Nat} {s : Int} {τ : Nat → Nat}
theorem pi_adF (hN : fN u = 4 * h) (h1 : 1 ≤ h) (hτ : ∀ p, p < 4 * h → τ p < 4 * h) (hu : ∀ p, p < 4 * h → u (1 + τ p) = cutP h s p) {p : Nat} (hp : p < 4 * h) : ∀ m q, q + m ≤ 4 → adF (fC u) (rowc (fun j => 4 * ((τ j : Nat) : Int)) p) 4 ((4 * h : Nat) : Int) p (4 * ((τ p : Nat) : Int)) m q = 0
  | 0, _, _ => rfl
  | m + 1, q, hq => by
    rw [adF, pi_adF hN h1 hτ hu hp m (q + 1) (by omega), Int.add_zero]
    have hr := nb_rng (w := 4) (n := ((4 * h : Nat) : Int)) (p := (p : Int)) (q := ((q : Nat) : Int)) (by omega) (by omega) (by omega)
    split
    · rename_i hc
      obtain ⟨j, hj⟩ := Int.eq_ofNat_of_zero_le (show 0 ≤ nb 4 ((4 * h : Nat) : Int) p ((q : Nat) : Int) by omega)
      rw [hj, Int.toNat_natCast] at hc ⊢
      have hjp : j < p := by
        refine Nat.lt_of_not_le (fun z => hc.2 ?_)
        unfold rowc
        rw [if_neg (by omega)]
      have e : rowc (fun j => 4 * ((τ j : Nat) : Int)) p j = 4 * ((τ j : Nat) : Int) := if_pos hjp
      have hjN : j < 4 * h := by omega
      rw [e]
      unfold tdf
      have hq2 : (((q : Nat) : Int) + 2) % 4 = (((q + 2) % 4 : Nat) : Int) := by omega
      rw [hq2, sdT_4 (by omega), sdT_4 (by omega), fC_ps (by rw [hN]; exact hτ p hp) (by omega), fC_ps (by rw [hN]; exact hτ j hjN) (by omega), hu p hp, hu j hjN]
      exact tou h s (by omega) hj
    · rfl
theorem pi_tl (hN : fN u = 4 * h) (h1 : 1 ≤ h) (hτ : ∀ p, p < 4 * h → τ p < 4 * h) (hu : ∀ p, p < 4 * h → u (1 + τ p) = cutP h s p) : ∀ r p, p + r ≤ 4 * h → tlF (fC u) (fN u) 4 (fun j => 4 * ((τ j : Nat) : Int)) r p = 0
  | 0, _, _ => rfl
  | r + 1, p, hp => by
    rw [tlF, pi_tl hN h1 hτ hu r (p + 1) (by omega), Int.add_zero, hN]
    exact pi_adF hN h1 hτ hu (by omega) 4 0 (by omega)
theorem pi_ff (hN : fN u = 4 * h) (hτ : ∀ p, p < 4 * h → τ p < 4 * h) (hu : ∀ p, p < 4 * h → u (1 + τ p) = cutP h s p) {p : Nat} (hp : p < 4 * h) : ∀ m q, q + m ≤ 4 → ffF (fC u) 4 ((4 * h : Nat) : Int) p (4 * ((τ p : Nat) : Int)) m q
  | 0, _, _ => trivial
  | m + 1, q, hq => by
    refine ⟨?_, pi_ff hN hτ hu hp m (q + 1) (by omega)⟩
    rw [sdT_4 (by omega), fC_ps (by rw [hN]; exact hτ p hp) (by omega), hu p hp]
    exact frm h s hp (by omega)
theorem pi_row (hN : fN u = 4 * h) (hτ : ∀ p, p < 4 * h → τ p < 4 * h) (hi : ∀ p q, p < 4 * h → q < 4 * h → τ p = τ q → p = q) (hu : ∀ p, p < 4 * h → u (1 + τ p) = cutP h s p) : vRow (fC u) (fN u) 4 0 1 0 (fun j => 4 * ((τ j : Nat) : Int)) := fun q _ hq => by
  rw [hN] at hq ⊢
  have hτq := hτ q hq
  have e : ((fun j => 4 * ((τ j : Nat) : Int)) q).toNat = 4 * τ q := by
    show (4 * ((τ q : Nat) : Int)).toNat = 4 * τ q
    omega
  refine ⟨⟨by show 0 ≤ 4 * ((τ q : Nat) : Int); omega, by show 4 * ((τ q : Nat) : Int) < 4 * ((4 * h : Nat) : Int); omega⟩, ?_⟩
  rw [e]
  refine ⟨Or.inl (by omega), fun j hj z => ?_, fun _ => ?_⟩
  · have z : 4 * ((τ j : Nat) : Int) / 4 = ((4 * τ q / 4 : Nat) : Int) := z
    have := hi j q (by omega) hq (by omega)
    omega
  · have := pi_ff hN hτ hu hq 4 0 (by omega)
    rw [show ((4 * τ q : Nat) : Int) = 4 * ((τ q : Nat) : Int) by omega]
    exact this
theorem pi_jn (hN : fN u = 4 * h) (h1 : 1 ≤ h) (hτ : ∀ p, p < 4 * h → τ p < 4 * h) (hi : ∀ p q, p < 4 * h → q < 4 * h → τ p = τ q → p = q) (hu : ∀ p, p < 4 * h → u (1 + τ p) = cutP h s p) : jnA u 4 0 1 (-1) = 0 := by
  have a := jn_le (v := u) (w := 4) (tu := 0) (fr := 1) (pi_row hN hτ hi hu)
  have b := jn_nn u 4 0 1
  rw [pi_tl hN h1 hτ hu (fN u) 0 (by omega)] at a
  rw [jnA_lt (by omega)]
  omega
end PI
theorem mk_cells {v : Nat → Int} {s : Int} {h : Nat} (hh : h = 1 ∨ h = 2) : ∃ σ τ : Nat → Nat, (∀ j, j < 4 * h → σ j < 4 * h) ∧ (∀ p, p < 4 * h → τ p < 4 * h ∧ σ (τ p) = p) ∧ ∀ j, j < 4 * h → vMk v s 4 ((h : Nat) : Int) 0 (1 + j) = cutP h s (σ j) := by
  obtain ⟨σ, τ, h1, h2, h3⟩ := mx_perm (N := 4 * h) (4 * h - 1) (pX (3 * 4 + 1) (3 * h + 1) s ((3 * 4 + 1) * (3 * h + 1))) (fun p => if p < 4 * h then ctF (pC (3 * 4 + 1) (3 * h + 1) s) (3 * 4 + 1) (3 * (p % 4)) (3 * (p / 4)) 16 else v (1 + p)) (by omega)
  refine ⟨σ, τ, h1, h2, fun j hj => ?_⟩
  have e : vMk v s 4 ((h : Nat) : Int) 0 (1 + j) = mkC v s 4 h 0 j := by
    unfold vMk
    rw [if_neg (by omega), if_pos (by omega), show 1 + j - 1 = j by omega, Int.toNat_natCast]
    rfl
  have e2 : mkC v s 4 h 0 = (mxF (4 * h - 1) (pX (3 * 4 + 1) (3 * h + 1) s ((3 * 4 + 1) * (3 * h + 1))) (fun p => if p < 4 * h then ctF (pC (3 * 4 + 1) (3 * h + 1) s) (3 * 4 + 1) (3 * (p % 4)) (3 * (p / 4)) 16 else v (1 + p))).2 := if_neg (by decide)
  rw [e, e2, h3 j hj]
  exact if_pos (h1 j hj)
/-- what the law asks of the picture -/
theorem pict {v : Nat → Int} {s : Int} {h : Nat} (hh : h = 1 ∨ h = 2) : fN (vMk v s 4 ((h : Nat) : Int) 0) = 4 * h ∧ vMk v s 4 ((h : Nat) : Int) 0 0 = 4 * ((h : Nat) : Int) ∧ jnA (vMk v s 4 ((h : Nat) : Int) 0) 4 0 1 (-1) = 0 ∧ csA (vMk v s 4 ((h : Nat) : Int) 0) = 0 ∧ (0 ≤ ofA (vMk v s 4 ((h : Nat) : Int) 0) 0 0 ∧ ofA (vMk v s 4 ((h : Nat) : Int) 0) 0 0 < (if h = 1 then 2 else 3)) := by
  obtain ⟨σ, τ, h1, h2, h3⟩ := mk_cells (v := v) (s := s) hh
  have e0 : vMk v s 4 ((h : Nat) : Int) 0 0 = 4 * ((h : Nat) : Int) := if_pos rfl
  have eN : fN (vMk v s 4 ((h : Nat) : Int) 0) = 4 * h := by
    unfold fN
    rw [e0]
    omega
  have e9 : vMk v s 4 ((h : Nat) : Int) 0 9 = 4 := rfl
  have e10 : vMk v s 4 ((h : Nat) : Int) 0 10 = ((h : Nat) : Int) := rfl
  refine ⟨eN, e0, ?_, ?_, ?_⟩
  · refine pi_jn (s := s) (τ := τ) eN (by omega) (fun p hp => (h2 p hp).1) (fun p q hp hq e => ?_) (fun p hp => ?_)
    · have a := (h2 p hp).2
      have b := (h2 q hq).2
      rw [e] at a
      omega
    · rw [h3 (τ p) (h2 p hp).1, (h2 p hp).2]
  · refine cs_empty (fun j hj => ?_)
    have hS : fS (vMk v s 4 ((h : Nat) : Int) 0) = 4 * ((h : Nat) : Int) := by
      unfold fS
      rw [e9, e10]
    unfold vMk
    rw [if_neg (by omega), if_neg (by omega), if_neg (by omega), if_neg (by omega), if_pos (by omega)]
  · have hs := sort_le (vMk v s 4 ((h : Nat) : Int) 0) 0
    refine ⟨hs.1, ?_⟩
    rcases hh with rfl | rfl
    · rw [if_pos rfl]
      have hz : fC (vMk v s 4 ((1 : Nat) : Int) 0) (4 * 0 + 0) = 0 := by
        rw [fC_ps (by omega) (by omega), h3 0 (by omega)]
        have hσ := h1 0 (by omega)
        have e : nb 4 ((4 * 1 : Nat) : Int) ((σ 0 : Nat) : Int) ((0 : Nat) : Int) = if (4 : Int) ≤ ((σ 0 : Nat) : Int) then ((σ 0 : Nat) : Int) - 4 else -1 := rfl
        refine (frm 1 s hσ (by omega)).mp ?_
        rw [e, if_neg (by omega)]
      have := hs.2.2 hz
      omega
    · rw [if_neg (by decide)]
      omega
