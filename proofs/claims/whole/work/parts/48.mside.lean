/-! EdgeJoinModel: edges, flat sides, differences, mates -/
theorem col_dig : ∀ e, e < 256 → ∀ i, i < 4 → col ((e : Nat) : Int) ((i : Nat) : Int) = ((e / 4 ^ i % 4 : Nat) : Int) := by decide +kernel
theorem col_eg (c : Int) (s : Nat) : ∀ k, k < 4 → col (eg c s) ((3 - k : Nat) : Int) = col c (rimI (4 * s + k)) := by
  have h0 := col_rng c (rimI (4 * s + 0))
  have h1 := col_rng c (rimI (4 * s + 1))
  have h2 := col_rng c (rimI (4 * s + 2))
  have h3 := col_rng c (rimI (4 * s + 3))
  have hr := eg_rng c s
  obtain ⟨e, he⟩ := Int.eq_ofNat_of_zero_le hr.1
  have hE : (e : Int) = 4 * (4 * (4 * (4 * 0 + col c (rimI (4 * s + 0))) + col c (rimI (4 * s + 1))) + col c (rimI (4 * s + 2))) + col c (rimI (4 * s + 3)) := by
    rw [← he]
    rfl
  intro k hk
  rw [he, col_dig e (by omega) (3 - k) (by omega)]
  have hc : k = 0 ∨ k = 1 ∨ k = 2 ∨ k = 3 := by omega
  rcases hc with rfl | rfl | rfl | rfl
  · show ((e / 64 % 4 : Nat) : Int) = _
    omega
  · show ((e / 16 % 4 : Nat) : Int) = _
    omega
  · show ((e / 4 % 4 : Nat) : Int) = _
    omega
  · show ((e / 1 % 4 : Nat) : Int) = _
    omega
theorem fC_k {v : Nat → Int} {k : Nat} (hk : k < 4 * fN v) : fC v k = eg (v (1 + k / 4)) (k % 4) := by
  show eg (nrm (v 0).toNat (fun p => v (1 + p)) (k / 4)) (k % 4) = _
  have h : k / 4 < (v 0).toNat := by
    unfold fN at hk
    omega
  rw [nrm_at h]
theorem fC_ps {v : Nat → Int} {p s : Nat} (hp : p < fN v) (hs : s < 4) : fC v (4 * p + s) = eg (v (1 + p)) s := by
  rw [fC_k (by omega), show (4 * p + s) / 4 = p by omega, show (4 * p + s) % 4 = s by omega]
theorem mtF_l (f : Nat → Int) (k : Nat) : ∀ (m o : Nat) (b : Int), mtF f k m o b 1000 = mtF f k m o b 100
  | 0, _, _ => rfl
  | m + 1, o, b => by
    have h := difF_rng (f k) (f o) 4 0
    have h2 : 0 ≤ dif (f k) (f o) ∧ dif (f k) (f o) ≤ 12 := by
      unfold dif
      omega
    rw [mtF, mtF]
    by_cases hc : o / 4 ≠ k / 4 ∧ f o ≠ 0
    · rw [if_pos ⟨hc, by omega⟩, if_pos ⟨hc, by omega⟩]
    · rw [if_neg (fun z => hc z.1), if_neg (fun z => hc z.1)]
      exact mtF_l f k m (o + 1) b
theorem zor_z : ∀ m, m < 16 → zor ((m : Nat) : Int) 0 = ((m : Nat) : Int) := by decide +kernel
theorem sort_eq : ∀ m, m < 16 → srF ((m : Nat) : Int) 4 0 = (if zand ((m : Nat) : Int) (zor (zshr ((m : Nat) : Int) 1) (zshl (zand ((m : Nat) : Int) 1) 3)) = 0 then (if ((m : Nat) : Int) = 0 then 2 else 1) else 0) := by decide +kernel
theorem sort_rng : ∀ m, m < 16 → (-2147483648 ≤ zand ((m : Nat) : Int) (zor (zshr ((m : Nat) : Int) 1) (zshl (zand ((m : Nat) : Int) 1) 3)) ∧ zand ((m : Nat) : Int) (zor (zshr ((m : Nat) : Int) 1) (zshl (zand ((m : Nat) : Int) 1) 3)) ≤ 2147483647) := by decide +kernel
section MS
variable {L d : Nat} {I : zI} {v : Nat → Int} {hs : Nat → Nat → Int} {hn : Nat} {ct tx : Nat → Int} {tl : Nat}
theorem m_edgeColour {b : Int} {s k : Nat} (hs : s < 4) (hk : k < 4) : Ev L (d + 1) k_X8_edgeColour [vI b, vI s, vI k] I (some (vI (col b (rimI (4 * s + k))))) I := by
  show Go L (d + 1) k_X8_edgeColour 0 [some (vI b), some (vI s), some (vI k)] [] I _
  have hc : s = 0 ∨ s = 1 ∨ s = 2 ∨ s = 3 := by omega
  have kc : k = 0 ∨ k = 1 ∨ k = 2 ∨ k = 3 := by omega
  refine g_l 1 rfl rfl ?_
  rcases hc with rfl | rfl | rfl | rfl
  · refine g_ts 28 rfl (by decide) (by decide) ?_
    refine g_l 29 rfl rfl ?_
    refine g_l 30 rfl rfl ?_
    refine g_p 31 rfl rfl ?_
    refine g_callE rfl m_colour ?_
    refine g_ret rfl rfl ⟨?_, rfl⟩
    rcases kc with rfl | rfl | rfl | rfl <;> rfl
  · refine g_ts 35 rfl (by decide) (by decide) ?_
    refine g_l 36 rfl rfl ?_
    refine g_p 37 rfl rfl ?_
    refine g_l 38 rfl rfl ?_
    refine g_callE rfl m_colour ?_
    refine g_ret rfl rfl ⟨?_, rfl⟩
    rcases kc with rfl | rfl | rfl | rfl <;> rfl
  · refine g_ts 42 rfl (by decide) (by decide) ?_
    refine g_l 43 rfl rfl ?_
    refine g_p 44 rfl rfl ?_
    refine g_l 45 rfl rfl ?_
    refine g_p 46 rfl rfl ?_
    refine g_p 47 rfl rfl ?_
    refine g_callE rfl m_colour ?_
    refine g_ret rfl rfl ⟨?_, rfl⟩
    rcases kc with rfl | rfl | rfl | rfl <;> rfl
  · refine g_ts 51 rfl (by decide) (by decide) ?_
    refine g_l 52 rfl rfl ?_
    refine g_p 53 rfl rfl ?_
    refine g_p 54 rfl rfl ?_
    refine g_l 55 rfl rfl ?_
    refine g_p 56 rfl rfl ?_
    refine g_callE rfl m_colour ?_
    refine g_ret rfl rfl ⟨?_, rfl⟩
    rcases kc with rfl | rfl | rfl | rfl <;> rfl
theorem m_edgeOf {b : Int} {s : Nat} (hs : s < 4) : Ev L (d + 2) k_X8_edgeOf [vI b, vI s] I (some (vI (eg b s))) I := by
  have key : ∀ (m k : Nat), k + m = 4 → Go L (d + 2) k_X8_edgeOf 4 [some (vI b), some (vI s), some (vI (egF b s k)), some (vI k)] [] I (fun r J => r = some (vI (eg b s)) ∧ J = I) := by
    intro m
    induction m with
    | zero =>
      intro k hk
      have hk : k = 4 := by omega
      subst hk
      refine g_l 5 rfl rfl ?_
      refine g_p 6 rfl rfl ?_
      refine g_ic_ge rfl (by omega) (by omega) (fun g => ?_) (fun g => ?_)
      · refine g_l 27 rfl rfl ?_
        exact g_ret rfl rfl ⟨rfl, rfl⟩
      · exact absurd g (by omega)
    | succ m ih =>
      intro k hk
      refine g_l 5 rfl rfl ?_
      refine g_p 6 rfl rfl ?_
      refine g_ic_ge rfl (by omega) (by omega) (fun g => ?_) (fun g => ?_)
      · exact absurd g (by omega)
      · refine g_p 10 rfl rfl ?_
        refine g_l 11 rfl rfl ?_
        refine g_p 12 rfl rfl ?_
        refine g_l 13 rfl rfl ?_
        refine g_l 14 rfl rfl ?_
        refine g_l 15 rfl rfl ?_
        refine g_callE rfl (m_edgeColour hs (by omega)) ?_
        refine g_p 19 rfl rfl ?_
        refine g_l 20 rfl rfl ?_
        refine g_l 23 rfl rfl ?_
        refine g_goto rfl ?_
        exact ih (k + 1) (by omega)
  show Go L (d + 2) k_X8_edgeOf 0 [some (vI b), some (vI s), none, none] [] I _
  refine g_p 1 rfl rfl ?_
  refine g_l 2 rfl rfl ?_
  refine g_p 3 rfl rfl ?_
  refine g_l 4 rfl rfl ?_
  exact key 4 0 (by omega)
theorem m_isFlat {p s : Nat} (hA : AL I v) (h8 : fN v ≤ 8) (hp : p < fN v) (hs : s < 4) : Ev L (d + 3) k_X8_isFlat [vR 137, vI p, vI s] I (some (vI (b2i (fC v (4 * p + s) = 0)))) I := by
  have hr := eg_rng (v (1 + p)) s
  show Go L (d + 3) k_X8_isFlat 0 [some (vR 137), some (vI p), some (vI s)] [] I _
  refine g_l 1 rfl rfl ?_
  refine g_l 2 rfl rfl ?_
  refine g_callE rfl (m_bits hA (by omega)) ?_ (hr := rcvM rfl)
  refine g_l 6 rfl rfl ?_
  refine g_callE rfl (m_edgeOf hs) ?_
  rw [fC_ps hp hs]
  refine g_if_ne rfl (by omega) (fun g => ?_) (fun g => ?_)
  · refine g_p 17 rfl rfl ?_
    exact g_retb rfl rfl (Or.inl rfl) ⟨by rw [← b2i_f g], rfl⟩
  · refine g_p 13 rfl rfl ?_
    refine g_goto rfl ?_
    exact g_retb rfl rfl (Or.inr rfl) ⟨by rw [← b2i_t (Decidable.not_not.mp g)], rfl⟩
theorem m_flats {p : Nat} (hA : AL I v) (h8 : fN v ≤ 8) (hp : p < fN v) : Ev L (d + 4) k_X8_flats [vR 137, vI p] I (some (vI (fmF (fC v) p 4 : Nat))) I := by
  have key : ∀ (m s : Nat), s + m = 4 → Go L (d + 4) k_X8_flats 4 [some (vR 137), some (vI p), some (vI (fmF (fC v) p s : Nat)), some (vI s)] [] I (fun r J => r = some (vI (fmF (fC v) p 4 : Nat)) ∧ J = I) := by
    intro m
    induction m with
    | zero =>
      intro s hs
      have hs : s = 4 := by omega
      subst hs
      refine g_l 5 rfl rfl ?_
      refine g_p 6 rfl rfl ?_
      refine g_ic_ge rfl (by omega) (by omega) (fun g => ?_) (fun g => ?_)
      · refine g_l 35 rfl rfl ?_
        exact g_ret rfl rfl ⟨rfl, rfl⟩
      · exact absurd g (by omega)
    | succ m ih =>
      intro s hs
      have hlt := fmF_lt (fC v) p s
      have hb := b2i_r (fC v (4 * p + s) = 0)
      have h16 : fmF (fC v) p s < 16 := by
        have : 2 ^ s ≤ 2 ^ 4 := Nat.pow_le_pow_right (by omega) (by omega)
        omega
      have h := ih (s + 1) (by omega)
      refine g_l 5 rfl rfl ?_
      refine g_p 6 rfl rfl ?_
      refine g_ic_ge rfl (by omega) (by omega) (fun g => ?_) (fun g => ?_)
      · exact absurd g (by omega)
      · refine g_l 10 rfl rfl ?_
        refine g_l 11 rfl rfl ?_
        refine g_l 12 rfl rfl ?_
        refine g_l 13 rfl rfl ?_
        refine g_callE rfl (m_isFlat hA h8 hp (by omega)) ?_ (hr := rcvM rfl)
        rw [fmF] at h
        refine g_if_eq rfl (by omega) (fun g1 => ?_) (fun g1 => ?_)
        · rw [if_neg (b2i_0 g1)] at h
          refine g_p 26 rfl rfl ?_
          refine g_p 27 rfl rfl ?_
          rw [zor_z _ h16]
          refine g_l 28 rfl rfl ?_
          refine g_l 31 rfl rfl ?_
          refine g_goto rfl ?_
          exact h
        · rw [if_pos (b2i_1 g1)] at h
          refine g_p 20 rfl rfl ?_
          refine g_l 21 rfl rfl ?_
          refine g_p 22 rfl rfl ?_
          refine g_goto rfl ?_
          refine g_p 27 rfl rfl ?_
          rw [zor_sh s (by omega) _ hlt]
          refine g_l 28 rfl rfl ?_
          refine g_l 31 rfl rfl ?_
          refine g_goto rfl ?_
          exact h
  show Go L (d + 4) k_X8_flats 0 [some (vR 137), some (vI p), none, none] [] I _
  refine g_p 1 rfl rfl ?_
  refine g_l 2 rfl rfl ?_
  refine g_p 3 rfl rfl ?_
  refine g_l 4 rfl rfl ?_
  exact key 4 0 (by omega)
theorem m_sort {p : Nat} (hA : AL I v) (h8 : fN v ≤ 8) (hp : p < fN v) : Ev L (d + 5) k_X8_sort [vR 137, vI p] I (some (vI (srF (fmF (fC v) p 4 : Nat) 4 0))) I := by
  have hlt := fmF_lt (fC v) p 4
  show Go L (d + 5) k_X8_sort 0 [some (vR 137), some (vI p), none, none] [] I _
  refine g_l 1 rfl rfl ?_
  refine g_l 2 rfl rfl ?_
  refine g_callE rfl (m_flats hA h8 hp) ?_ (hr := rcvM rfl)
  generalize fmF (fC v) p 4 = m at hlt ⊢
  have hlt : m < 16 := hlt
  have hr := sort_rng m hlt
  rw [sort_eq m hlt]
  refine g_l 6 rfl rfl ?_
  refine g_l 7 rfl rfl ?_
  refine g_l 8 rfl rfl ?_
  refine g_p 9 rfl rfl ?_
  refine g_p 10 rfl rfl ?_
  refine g_l 11 rfl rfl ?_
  refine g_p 12 rfl rfl ?_
  refine g_p 13 rfl rfl ?_
  refine g_p 14 rfl rfl ?_
  refine g_p 15 rfl rfl ?_
  refine g_p 16 rfl rfl ?_
  refine g_p 17 rfl rfl ?_
  refine g_l 18 rfl rfl ?_
  refine g_l 19 rfl rfl ?_
  refine g_if_eq rfl (by omega) (fun g => ?_) (fun g => ?_)
  · refine g_l 27 rfl rfl ?_
    rw [if_pos g]
    refine g_if_eq rfl (by omega) (fun g2 => ?_) (fun g2 => ?_)
    · refine g_p 35 rfl rfl ?_
      rw [if_pos g2]
      exact g_ret rfl rfl ⟨rfl, rfl⟩
    · refine g_p 31 rfl rfl ?_
      refine g_goto rfl ?_
      rw [if_neg g2]
      exact g_ret rfl rfl ⟨rfl, rfl⟩
  · refine g_p 23 rfl rfl ?_
    refine g_goto rfl ?_
    rw [if_neg g]
    exact g_ret rfl rfl ⟨rfl, rfl⟩
theorem m_unlikeOf {p s q t : Nat} (hA : AL I v) (hp : p < 8) (hs : s < 4) (hq : q < 8) (ht : t < 4) : Ev L (d + 2) k_X8_unlikeOf [vR 137, vI p, vI s, vI q, vI t] I (some (vI (dif (eg (v (1 + p)) s) (eg (v (1 + q)) t)))) I := by
  generalize ha : eg (v (1 + p)) s = a
  generalize hb : eg (v (1 + q)) t = b
  have key : ∀ (m k : Nat) (x : Int) (o7 : Option zV), k + m = 4 → Go L (d + 2) k_X8_unlikeOf 6 [some (vR 137), some (vI p), some (vI s), some (vI q), some (vI t), some (vI x), some (vI k), o7] [] I (fun r J => r = some (vI (x + difF a b m k)) ∧ J = I) := by
    intro m
    induction m with
    | zero =>
      intro k x o7 hk
      refine g_l 8 rfl rfl ?_
      refine g_p 9 rfl rfl ?_
      refine g_ic_ge rfl (by omega) (by omega) (fun g => ?_) (fun g => ?_)
      · refine g_l 66 rfl rfl ?_
        exact g_ret rfl rfl ⟨by simp [difF], rfl⟩
      · exact absurd g (by omega)
    | succ m ih =>
      intro k x o7 hk
      have e1 : col (v (1 + p)) (rimI (4 * s + k)) = col a (3 - k) := by
        rw [← ha, ← col_eg _ _ k (by omega), show ((3 - k : Nat) : Int) = 3 - (k : Int) by omega]
      have e2 : col (v (1 + q)) (rimI (4 * t + (3 - k))) = col b k := by
        rw [← hb, ← col_eg _ _ (3 - k) (by omega), show ((3 - (3 - k) : Nat) : Int) = (k : Int) by omega]
      have r1 := col_rng a (3 - k)
      have r2 := col_rng b k
      have e3 : (3 : Int) - (k : Int) = ((3 - k : Nat) : Int) := by omega
      refine g_l 8 rfl rfl ?_
      refine g_p 9 rfl rfl ?_
      refine g_ic_ge rfl (by omega) (by omega) (fun g => ?_) (fun g => ?_)
      · exact absurd g (by omega)
      · refine g_l 13 rfl rfl ?_
        refine g_l 14 rfl rfl ?_
        refine g_callE rfl (m_bits hA hp) ?_ (hr := rcvM rfl)
        refine g_l 18 rfl rfl ?_
        refine g_l 20 rfl rfl ?_
        refine g_callE rfl (m_edgeColour hs (by omega)) ?_
        rw [e1]
        refine g_l 24 rfl rfl ?_
        refine g_l 25 rfl rfl ?_
        refine g_callE rfl (m_bits hA hq) ?_ (hr := rcvM rfl)
        refine g_l 30 rfl rfl ?_
        refine g_p 31 rfl rfl ?_
        refine g_l 33 rfl rfl ?_
        refine g_p 34 rfl rfl ?_
        rw [show (Sum.inl ((3 : Int) - (k : Int)) : zV) = vI ((3 - k : Nat) : Int) from congrArg vI e3]
        refine g_callE rfl (m_edgeColour ht (show 3 - k < 4 by omega)) ?_
        rw [e2]
        refine g_p 38 rfl rfl ?_
        refine g_l 40 rfl rfl ?_
        refine g_l 42 rfl rfl ?_
        refine g_l 44 rfl rfl ?_
        have fin : ab (col a (3 - k) - col b k) + difF a b m (k + 1) = difF a b (m + 1) k := rfl
        refine g_if_ge rfl (by omega) (fun g2 => ?_) (fun g2 => ?_)
        · refine g_l 55 rfl rfl ?_
          refine g_p 56 rfl rfl ?_
          refine g_l 58 rfl rfl ?_
          refine g_l 61 rfl rfl ?_
          refine g_goto rfl ?_
          have e : x + difF a b (m + 1) k = x + (col a (3 - k) - col b k) + difF a b m (k + 1) := by
            rw [← fin]
            unfold ab
            rw [if_pos (by omega)]
            omega
          rw [e]
          exact ih (k + 1) _ _ (by omega)
        · refine g_l 49 rfl rfl ?_
          refine g_p 50 rfl rfl ?_
          refine g_goto rfl ?_
          refine g_p 56 rfl rfl ?_
          refine g_l 58 rfl rfl ?_
          refine g_l 61 rfl rfl ?_
          refine g_goto rfl ?_
          have e : x + difF a b (m + 1) k = x + -(col a (3 - k) - col b k) + difF a b m (k + 1) := by
            rw [← fin]
            unfold ab
            rw [if_neg (by omega)]
            omega
          rw [e]
          exact ih (k + 1) _ _ (by omega)
  show Go L (d + 2) k_X8_unlikeOf 0 [some (vR 137), some (vI p), some (vI s), some (vI q), some (vI t), none, none, none] [] I _
  refine g_p 1 rfl rfl ?_
  refine g_l 3 rfl rfl ?_
  refine g_p 4 rfl rfl ?_
  refine g_l 6 rfl rfl ?_
  have h := key 4 0 0 none (by omega)
  rw [Int.zero_add] at h
  exact h
theorem m_mateOf {p s : Nat} (hA : AL I v) (ho : OKv v) (hp : p < fN v) (hs : s < 4) : Ev L (d + 4) k_X8_mateOf [vR 137, vI p, vI s] I (some (vI (mtF (fC v) (4 * p + s) (4 * fN v) 0 (-1) 1000))) I := by
  have hf := fN_le ho
  rw [mtF_l]
  have key : ∀ (m k : Nat) (b l : Int) (o6 : Option zV), k + m = 4 * fN v → (-1 ≤ b ∧ b ≤ 32) → (0 ≤ l ∧ l ≤ 100) → Go L (d + 4) k_X8_mateOf 9 [some (vR 137), some (vI p), some (vI s), some (vI b), some (vI l), some (vI k), o6] [] I (fun r J => r = some (vI (mtF (fC v) (4 * p + s) m k b l)) ∧ J = I) := by
    intro m
    induction m with
    | zero =>
      intro k b l o6 hk hb hl
      refine g_l 11 rfl rfl ?_
      refine g_p 12 rfl rfl ?_
      refine g_l 13 rfl rfl ?_
      refine g_callE rfl (m_many hA) ?_ (hr := rcvM rfl)
      refine g_p 17 rfl rfl ?_
      refine g_ic_ge rfl (by omega) (by omega) (fun g => ?_) (fun g => ?_)
      · refine g_l 96 rfl rfl ?_
        exact g_ret rfl rfl ⟨rfl, rfl⟩
      · exact absurd g (by omega)
    | succ m ih =>
      intro k b l o6 hk hb hl
      have hd := difF_rng (fC v (4 * p + s)) (fC v k) 4 0
      have hd2 : 0 ≤ dif (fC v (4 * p + s)) (fC v k) ∧ dif (fC v (4 * p + s)) (fC v k) ≤ 12 := by
        unfold dif
        omega
      have ed : (k : Int) / 4 = ((k / 4 : Nat) : Int) := by omega
      have er : (k : Int) % 4 = ((k % 4 : Nat) : Int) := by omega
      have ek4 : 4 * (k / 4) + k % 4 = k := by omega
      have hps : (4 * p + s) / 4 = p := by omega
      have hb2 := b2i_r (fC v (4 * (k / 4) + k % 4) = 0)
      have skip : ∀ (o6 : Option zV), ¬ ((k / 4 ≠ p ∧ fC v k ≠ 0) ∧ dif (fC v (4 * p + s)) (fC v k) < l) → Go L (d + 4) k_X8_mateOf 89 [some (vR 137), some (vI p), some (vI s), some (vI b), some (vI l), some (vI k), o6] [] I (fun r J => r = some (vI (mtF (fC v) (4 * p + s) (m + 1) k b l)) ∧ J = I) := fun o6 hno => by
        refine g_l 92 rfl rfl ?_
        refine g_goto rfl ?_
        rw [mtF, hps, if_neg hno]
        exact ih (k + 1) b l _ (by omega) hb hl
      refine g_l 11 rfl rfl ?_
      refine g_p 12 rfl rfl ?_
      refine g_l 13 rfl rfl ?_
      refine g_callE rfl (m_many hA) ?_ (hr := rcvM rfl)
      refine g_p 17 rfl rfl ?_
      refine g_ic_ge rfl (by omega) (by omega) (fun g => ?_) (fun g => ?_)
      · exact absurd g (by omega)
      · refine g_l 22 rfl rfl ?_
        refine g_p 23 rfl rfl ?_
        refine g_div 24 rfl (by omega) (by omega) ?_
        refine g_l 25 rfl rfl ?_
        refine g_ic_eq rfl (by omega) (by omega) (fun g1 => ?_) (fun g1 => ?_)
        · exact skip _ (fun z => z.1.1 (by omega))
        · refine g_l 29 rfl rfl ?_
          refine g_l 31 rfl rfl ?_
          refine g_p 32 rfl rfl ?_
          refine g_div 33 rfl (by omega) (by omega) ?_
          rw [ed]
          refine g_l 35 rfl rfl ?_
          refine g_p 36 rfl rfl ?_
          refine g_rem 37 rfl (by omega) (by omega) ?_
          rw [er]
          refine g_callE rfl (m_isFlat hA hf.1 (by omega) (by omega)) ?_ (hr := rcvM rfl)
          refine g_if_ne rfl (by omega) (fun g2 => ?_) (fun g2 => ?_)
          · have g2 := b2i_1 g2
            rw [ek4] at g2
            exact skip _ (fun z => z.1.2 g2)
          · have g2 := b2i_0 (Decidable.not_not.mp g2)
            rw [ek4] at g2
            refine g_l 44 rfl rfl ?_
            refine g_l 45 rfl rfl ?_
            refine g_l 46 rfl rfl ?_
            refine g_l 48 rfl rfl ?_
            refine g_p 49 rfl rfl ?_
            refine g_div 50 rfl (by omega) (by omega) ?_
            rw [ed]
            refine g_l 52 rfl rfl ?_
            refine g_p 53 rfl rfl ?_
            refine g_rem 54 rfl (by omega) (by omega) ?_
            rw [er]
            refine g_callE rfl (m_unlikeOf hA (by omega) hs (by omega) (by omega)) ?_ (hr := rcvM rfl)
            rw [← fC_ps hp hs, ← fC_k (show k < 4 * fN v by omega)]
            refine g_l 59 rfl rfl ?_
            refine g_l 61 rfl rfl ?_
            refine g_l 63 rfl rfl ?_
            refine g_ic_ge rfl (by omega) (by omega) (fun g3 => ?_) (fun g3 => ?_)
            · refine g_l 72 rfl rfl ?_
              refine g_l 73 rfl rfl ?_
              refine g_l 75 rfl rfl ?_
              refine g_l 77 rfl rfl ?_
              refine g_ic_ge rfl (by omega) (by omega) (fun g4 => ?_) (fun g4 => ?_)
              · refine g_l 87 rfl rfl ?_
                refine g_l 89 rfl rfl ?_
                exact skip _ (fun z => absurd z.2 (by omega))
              · exact absurd g3 g4
            · refine g_l 68 rfl rfl ?_
              refine g_goto rfl ?_
              refine g_l 73 rfl rfl ?_
              refine g_l 75 rfl rfl ?_
              refine g_l 77 rfl rfl ?_
              refine g_ic_ge rfl (by omega) (by omega) (fun g4 => ?_) (fun g4 => ?_)
              · exact absurd g4 g3
              · refine g_l 82 rfl rfl ?_
                refine g_goto rfl ?_
                refine g_l 89 rfl rfl ?_
                refine g_l 92 rfl rfl ?_
                refine g_goto rfl ?_
                rw [mtF, hps, if_pos ⟨⟨by omega, g2⟩, by omega⟩]
                exact ih (k + 1) k _ _ (by omega) (by omega) (by omega)
  show Go L (d + 4) k_X8_mateOf 0 [some (vR 137), some (vI p), some (vI s), none, none, none, none] [] I _
  refine g_p 1 rfl rfl ?_
  refine g_l 2 rfl rfl ?_
  refine g_p 4 rfl rfl ?_
  refine g_l 6 rfl rfl ?_
  refine g_p 7 rfl rfl ?_
  refine g_l 9 rfl rfl ?_
  exact key (4 * fN v) 0 (-1) 100 none (by omega) (by omega) (by omega)
end MS
