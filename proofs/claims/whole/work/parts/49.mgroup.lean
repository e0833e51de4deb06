/-! EdgeJoinModel: mates, pairs, groups, places -/
theorem fM_k (v : Nat → Int) (k : Nat) : fM v k = if fC v k = 0 then -1 else mtF (fC v) k (4 * fN v) 0 (-1) 1000 := rfl
theorem fM_rng (v : Nat → Int) (k : Nat) : fM v k = -1 ∨ (0 ≤ fM v k ∧ fM v k < 4 * fN v ∧ (fM v k).toNat / 4 ≠ k / 4) := by
  have h := mt_rng (ek (vcel v)) (4 * fN v) k
  show mt (ek (vcel v)) (4 * fN v) k = -1 ∨ (0 ≤ mt (ek (vcel v)) (4 * fN v) k ∧ mt (ek (vcel v)) (4 * fN v) k < 4 * fN v ∧ (mt (ek (vcel v)) (4 * fN v) k).toNat / 4 ≠ k / 4)
  rcases h with h | h
  · exact Or.inl h
  · exact Or.inr ⟨h.1, by have := h.2.1; omega, h.2.2.1⟩
abbrev prP (v : Nat → Int) (k : Nat) : Prop := fM v k ≠ -1 ∧ fM v (fM v k).toNat = (k : Int)
/-- equal on what pairs join -/
def CN (M : Nat → Int) (n : Nat) (h : Nat → Int) : Prop := ∀ k, k < 4 * n → lowP M k → h (k / 4) = h ((M k).toNat / 4)
def GI (M : Nat → Int) (n : Nat) (g : Nat → Int) : Prop := (∀ p, p < n → 0 ≤ g p ∧ g p ≤ p) ∧ ∀ h : Nat → Int, CN M n h → ∀ p, p < n → h p = h (g p).toNat
theorem GI.uq {M : Nat → Int} {n : Nat} {g g' : Nat → Int} (h1 : GI M n g) (c1 : CN M n g) (h2 : GI M n g') (c2 : CN M n g') : ∀ p, p < n → g p = g' p := fun p hp => by
  have a1 := h1.1 p hp
  have a2 := h2.1 p hp
  have b1 := h2.2 g c1 p hp
  have b2 := h1.2 g' c2 p hp
  have d1 := h1.1 (g' p).toNat (by omega)
  have d2 := h2.1 (g p).toNat (by omega)
  omega
theorem jg_inv {M : Nat → Int} {n : Nat} (hM : ∀ k, k < 4 * n → M k < 4 * n) : ∀ (m s : Nat) (g : Nat → Int), s + m = 4 * n → GI M n g → (∀ k, k < s → lowP M k → g (k / 4) = g ((M k).toNat / 4)) → GI M n (jgF M m s g) ∧ CN M n (jgF M m s g)
  | 0, s, g, hs, hg, hc => ⟨hg, fun k hk hl => hc k (by omega) hl⟩
  | m + 1, s, g, hs, hg, hc => by
    rw [jgF]
    refine jg_inv hM m (s + 1) _ (by omega) ?_ ?_
    · by_cases hl : lowP M s
      · rw [if_pos hl]
        have hMs := hM s (by omega)
        have q1 := hg.1 (s / 4) (by omega)
        have q2 := hg.1 ((M s).toNat / 4) (by omega)
        refine ⟨fun p hp => ?_, fun h hh p hp => ?_⟩
        · have q3 := hg.1 p hp
          show 0 ≤ mg (g (s / 4)) (g ((M s).toNat / 4)) (g p) ∧ mg (g (s / 4)) (g ((M s).toNat / 4)) (g p) ≤ (p : Int)
          unfold mg
          split
          · split <;> omega
          · exact q3
        · have e1 := hg.2 h hh p hp
          have e2 := hg.2 h hh (s / 4) (by omega)
          have e3 := hg.2 h hh ((M s).toNat / 4) (by omega)
          have e4 := hh s (by omega) hl
          show h p = h (mg (g (s / 4)) (g ((M s).toNat / 4)) (g p)).toNat
          unfold mg
          split
          · rename_i hx
            have e5 : h p = h (s / 4) := by
              rcases hx with hx | hx
              · rw [e1, hx, ← e2]
              · rw [e1, hx, ← e3, e4]
            split
            · rw [e5, e4]
              exact e3
            · rw [e5]
              exact e2
          · exact e1
      · rw [if_neg hl]
        exact hg
    · intro k hk hl
      by_cases hls : lowP M s
      · rw [if_pos hls]
        show mg _ _ (g (k / 4)) = mg _ _ (g ((M k).toNat / 4))
        by_cases hks : k = s
        · rw [hks]
          unfold mg
          rw [if_pos (Or.inl rfl), if_pos (Or.inr rfl)]
        · rw [hc k (by omega) hl]
      · rw [if_neg hls]
        by_cases hks : k = s
        · exact absurd (hks ▸ hl) hls
        · exact hc k (by omega) hl
theorem fG_inv (v : Nat → Int) : GI (fM v) (fN v) (fG v) ∧ CN (fM v) (fN v) (fG v) :=
  jg_inv (fun k _ => by have := fM_rng v k; omega) (4 * fN v) 0 _ (by omega) ⟨fun p hp => ⟨Int.natCast_nonneg _, Int.le_refl _⟩, fun h _ p _ => by rw [Int.toNat_natCast]⟩ (fun k hk => absurd hk (by omega))
theorem pr_cn {v h : Nat → Int} {k : Nat} (hh : CN (fM v) (fN v) h) (hk : k < 4 * fN v) (hp : prP v k) : h (k / 4) = h ((fM v k).toNat / 4) := by
  have hr := fM_rng v k
  have hp1 := hp.1
  rcases hr with hr | hr
  · exact absurd hr hp1
  · obtain ⟨j, hj⟩ := Int.eq_ofNat_of_zero_le hr.1
    have hp2 := hp.2
    rw [hj, Int.toNat_natCast] at hp2 hr ⊢
    by_cases hlt : k < j
    · have := hh k hk ⟨by omega, by rw [hj, Int.toNat_natCast]; exact hp2⟩
      rw [hj, Int.toNat_natCast] at this
      exact this
    · have := hh j (by omega) ⟨by omega, by rw [hp2, Int.toNat_natCast]; exact hj⟩
      rw [hp2, Int.toNat_natCast] at this
      exact this.symm
/-- the piece whose group is looked at -/
def othP (v : Nat → Int) (k : Nat) : Nat := if prP v k then (fM v k).toNat / 4 else k / 4
theorem oth_rng {v : Nat → Int} {k : Nat} (hk : k < 4 * fN v) : othP v k < fN v := by
  have hr := fM_rng v k
  unfold othP
  split
  · rename_i h
    have := h.1
    omega
  · omega
theorem oth_cn {v h : Nat → Int} {k : Nat} (hh : CN (fM v) (fN v) h) (hk : k < 4 * fN v) : h (k / 4) = h (othP v k) := by
  unfold othP
  split
  · rename_i hp
    exact pr_cn hh hk hp
  · rfl
theorem oth_end {v g : Nat → Int} (h : ∀ k, k < 4 * fN v → g (k / 4) ≤ g (othP v k)) : CN (fM v) (fN v) g := fun k hk hl => by
  have hr := fM_rng v k
  have hp : prP v k := ⟨by have := hl.1; omega, hl.2⟩
  rcases hr with hr | hr
  · exact absurd hr hp.1
  · obtain ⟨j, hj⟩ := Int.eq_ofNat_of_zero_le hr.1
    have hp2 := hp.2
    rw [hj, Int.toNat_natCast] at hp2 hr ⊢
    have hq : prP v j := ⟨by omega, by rw [hp2, Int.toNat_natCast]; exact hj⟩
    have a1 := h k hk
    have a2 := h j (by omega)
    unfold othP at a1 a2
    rw [if_pos hp, hj, Int.toNat_natCast] at a1
    rw [if_pos hq, hp2, Int.toNat_natCast] at a2
    omega
def sgF (g : Nat → Int) : Nat → Int
  | 0 => 0
  | n + 1 => sgF g n + g n
theorem sgF_up {g : Nat → Int} {p : Nat} {x : Int} : ∀ n, sgF (zup g p x) n = if p < n then sgF g n - g p + x else sgF g n
  | 0 => by rw [if_neg (by omega)]; rfl
  | n + 1 => by
    rw [sgF, sgF, sgF_up n]
    by_cases h : p < n
    · rw [if_pos h, if_pos (by omega), zup_n (show n ≠ p by omega)]
      omega
    · rw [if_neg h]
      by_cases h2 : p = n
      · rw [if_pos (by omega), h2, zup_s]
        omega
      · rw [if_neg (by omega), zup_n (show n ≠ p by omega)]
theorem sgF_0 {g : Nat → Int} : ∀ n, (∀ p, p < n → 0 ≤ g p) → 0 ≤ sgF g n
  | 0, _ => Int.le_refl _
  | n + 1, h => by
    have h1 := sgF_0 n (fun p hp => h p (by omega))
    have h2 := h n (by omega)
    rw [sgF]
    omega
/-- only the rows of mates and groups have changed -/
def FrB (I J : zI) : Prop := ∀ q, q ≠ 142 → q ≠ 143 → J q = I q
theorem FrB.rf {I : zI} : FrB I I := fun _ _ _ => rfl
theorem FrB.tr {I J K : zI} (h1 : FrB I J) (h2 : FrB J K) : FrB I K := fun q a b => (h2 q a b).trans (h1 q a b)
theorem FrB.q {I J : zI} (h : FrB I J) : FrQ I J := ⟨fun q hq => h q (by omega) (by omega), by rw [h 137 (by omega) (by omega)], by rw [h 137 (by omega) (by omega)]⟩
theorem FrB.al {I J : zI} {v : Nat → Int} (h : FrB I J) (hA : AL I v) : AL J v := hA.q h.q
section MG
variable {L d : Nat} {I : zI} {v : Nat → Int} {hs : Nat → Nat → Int} {hn : Nat} {ct tx : Nat → Int} {tl : Nat}
theorem m_laysMates (hA : AL I v) (ho : OKv v) : Ct L (d + 5) k_X8_laysMates [vR 137] I (fun r J => r = none ∧ (∀ k, k < 4 * fN v → J 142 k = fM v k) ∧ ∀ q, q ≠ 142 → J q = I q) := by
  have hf := fN_le ho
  have key : ∀ (m k : Nat) (K : zI), k + m = 4 * fN v → (∀ j, j < k → K 142 j = fM v j) → (∀ q, q ≠ 142 → K q = I q) → Go L (d + 5) k_X8_laysMates 2 [some (vR 137), some (vI k)] [] K (fun r J => r = none ∧ (∀ k, k < 4 * fN v → J 142 k = fM v k) ∧ ∀ q, q ≠ 142 → J q = I q) := by
    intro m
    induction m with
    | zero =>
      intro k K hk k1 k2
      have hAK : AL K v := fun j hj => by rw [k2 138 (by omega)]; exact hA j hj
      refine g_l 3 rfl rfl ?_
      refine g_p 4 rfl rfl ?_
      refine g_l 5 rfl rfl ?_
      refine g_callE rfl (m_many hAK) ?_ (hr := rcvM rfl)
      refine g_p 9 rfl rfl ?_
      refine g_ic_ge rfl (by omega) (by omega) (fun g => ?_) (fun g => ?_)
      · exact g_ret rfl rfl ⟨rfl, fun j hj => k1 j (by omega), k2⟩
      · exact absurd g (by omega)
    | succ m ih =>
      intro k K hk k1 k2
      have hAK : AL K v := fun j hj => by rw [k2 138 (by omega)]; exact hA j hj
      have ed : (k : Int) / 4 = ((k / 4 : Nat) : Int) := by omega
      have er : (k : Int) % 4 = ((k % 4 : Nat) : Int) := by omega
      have ek4 : 4 * (k / 4) + k % 4 = k := by omega
      have hb2 := b2i_r (fC v (4 * (k / 4) + k % 4) = 0)
      have store : ∀ x : Int, x = fM v k → Go L (d + 5) k_X8_laysMates 44 [some (vR 137), some (vI k)] [vI x, vI (k : Int), vR 142] K (fun r J => r = none ∧ (∀ k, k < 4 * fN v → J 142 k = fM v k) ∧ ∀ q, q ≠ 142 → J q = I q) := fun x hx => by
        refine g_ias k rfl rfl (by omega) rfl (by omega) ?_
        refine g_l 48 rfl rfl ?_
        refine g_goto rfl ?_
        refine ih (k + 1) _ (by omega) (fun j hj => ?_) (fun q hq => by rw [zup2_ne hq]; exact k2 q hq)
        by_cases hjk : j = k
        · rw [hjk, zup2_at, hx]
        · rw [zup2_an hjk]
          exact k1 j (by omega)
      refine g_l 3 rfl rfl ?_
      refine g_p 4 rfl rfl ?_
      refine g_l 5 rfl rfl ?_
      refine g_callE rfl (m_many hAK) ?_ (hr := rcvM rfl)
      refine g_p 9 rfl rfl ?_
      refine g_ic_ge rfl (by omega) (by omega) (fun g => ?_) (fun g => ?_)
      · exact absurd g (by omega)
      · refine g_l 13 rfl rfl ?_
        refine g_fr rfl rfl ⟨⟨by decide, by omega, by decide⟩, by decide⟩ rfl ?_
        refine g_l 17 rfl rfl ?_
        refine g_l 18 rfl rfl ?_
        refine g_l 19 rfl rfl ?_
        refine g_p 20 rfl rfl ?_
        refine g_div 21 rfl (by omega) (by omega) ?_
        rw [ed]
        refine g_l 22 rfl rfl ?_
        refine g_p 23 rfl rfl ?_
        refine g_rem 24 rfl (by omega) (by omega) ?_
        rw [er]
        refine g_callE rfl (m_isFlat hAK hf.1 (by omega) (by omega)) ?_ (hr := rcvM rfl)
        refine g_if_eq rfl (by omega) (fun g2 => ?_) (fun g2 => ?_)
        · have g2 := b2i_0 g2
          rw [ek4] at g2
          refine g_l 35 rfl rfl ?_
          refine g_l 36 rfl rfl ?_
          refine g_p 37 rfl rfl ?_
          refine g_div 38 rfl (by omega) (by omega) ?_
          rw [ed]
          refine g_l 39 rfl rfl ?_
          refine g_p 40 rfl rfl ?_
          refine g_rem 41 rfl (by omega) (by omega) ?_
          rw [er]
          refine g_callE rfl (m_mateOf hAK ho (by omega) (by omega)) ?_ (hr := rcvM rfl)
          rw [ek4]
          exact store _ (by rw [fM_k, if_neg g2])
        · have g2 := b2i_1 g2
          rw [ek4] at g2
          refine g_p 31 rfl rfl ?_
          refine g_goto rfl ?_
          exact store _ (by rw [fM_k, if_pos g2])
  show Go L (d + 5) k_X8_laysMates 0 [some (vR 137), none] [] I _
  refine g_p 1 rfl rfl ?_
  refine g_l 2 rfl rfl ?_
  exact key (4 * fN v) 0 I (by omega) (fun j hj => absurd hj (by omega)) (fun _ _ => rfl)
theorem m_isPair {k : Nat} (h8 : fN v ≤ 8) (hk : k < 4 * fN v) (hM : ∀ k, k < 4 * fN v → I 142 k = fM v k) : Ev L d k_X8_isPair [vR 137, vI k] I (some (vI (b2i (prP v k)))) I := by
  have hr := fM_rng v k
  show Go L d k_X8_isPair 0 [some (vR 137), some (vI k)] [] I _
  refine g_l 1 rfl rfl ?_
  refine g_fr rfl rfl ⟨⟨by decide, by omega, by decide⟩, by decide⟩ rfl ?_
  refine g_l 5 rfl rfl ?_
  refine g_ia k rfl rfl rfl (by omega) ?_
  rw [hM k hk]
  refine g_p 7 rfl rfl ?_
  refine g_ic_eq rfl (by omega) (by omega) (fun g => ?_) (fun g => ?_)
  · refine g_p 30 rfl rfl ?_
    exact g_retb rfl rfl (Or.inl rfl) ⟨by rw [← b2i_f (fun z => z.1 g)], rfl⟩
  · have hr2 := fM_rng v (fM v k).toNat
    refine g_l 11 rfl rfl ?_
    refine g_fr rfl rfl ⟨⟨by decide, by omega, by decide⟩, by decide⟩ rfl ?_
    refine g_l 15 rfl rfl ?_
    refine g_fr rfl rfl ⟨⟨by decide, by omega, by decide⟩, by decide⟩ rfl ?_
    refine g_l 19 rfl rfl ?_
    refine g_ia k rfl rfl rfl (by omega) ?_
    rw [hM k hk]
    refine g_ia (fM v k).toNat rfl rfl (by omega) (by omega) ?_
    rw [hM _ (by omega)]
    refine g_l 22 rfl rfl ?_
    refine g_ic_ne rfl (by omega) (by omega) (fun g2 => ?_) (fun g2 => ?_)
    · refine g_p 30 rfl rfl ?_
      exact g_retb rfl rfl (Or.inl rfl) ⟨by rw [← b2i_f (fun z => g2 z.2)], rfl⟩
    · refine g_p 26 rfl rfl ?_
      refine g_goto rfl ?_
      exact g_retb rfl rfl (Or.inr rfl) ⟨by rw [← b2i_t ⟨g, Decidable.not_not.mp g2⟩], rfl⟩
theorem m_laysGroups (hA : AL I v) (ho : OKv v) : Ct L (d + 6) k_X8_laysGroups [vR 137] I (fun r J => r = none ∧ (∀ p, p < fN v → J 143 p = fG v p) ∧ FrB I J) := by
  have hf := fN_le ho
  have outer : ∀ (S : Nat) (K : zI) (g : Nat → Int) (o2 o3 : Option zV), (∀ k, k < 4 * fN v → K 142 k = fM v k) → FrB I K → (∀ p, p < fN v → K 143 p = g p) → GI (fM v) (fN v) g → sgF g (fN v) < S → Go L (d + 6) k_X8_laysGroups 29 [some (vR 137), some (vI 1), o2, o3] [] K (fun r J => r = none ∧ (∀ p, p < fN v → J 143 p = fG v p) ∧ FrB I J) := by
    intro S
    induction S with
    | zero =>
      intro K g o2 o3 kM kF kg hg hS
      exact absurd hS (by have := sgF_0 (g := g) (fN v) (fun p hp => (hg.1 p hp).1); omega)
    | succ S ih =>
      intro K g o2 o3 kM kF kg hg hS
      have inner : ∀ (m k : Nat) (J : zI) (u : Nat → Int) (b : Int) (o3 : Option zV), k + m = 4 * fN v → (∀ k, k < 4 * fN v → J 142 k = fM v k) → FrB I J → (∀ p, p < fN v → J 143 p = u p) → GI (fM v) (fN v) u → (b = 1 ∧ sgF u (fN v) < sgF g (fN v) ∨ b = 0 ∧ sgF u (fN v) ≤ sgF g (fN v) ∧ ∀ j, j < k → u (j / 4) ≤ u (othP v j)) → Go L (d + 6) k_X8_laysGroups 37 [some (vR 137), some (vI b), some (vI k), o3] [] J (fun r J => r = none ∧ (∀ p, p < fN v → J 143 p = fG v p) ∧ FrB I J) := by
        intro m
        induction m with
        | zero =>
          intro k J u b o3 hk jM jF ju hu hb
          refine g_l 38 rfl rfl ?_
          refine g_p 39 rfl rfl ?_
          refine g_l 40 rfl rfl ?_
          refine g_callE rfl (m_many (jF.al hA)) ?_ (hr := rcvM rfl)
          refine g_p 44 rfl rfl ?_
          refine g_ic_ge rfl (by omega) (by omega) (fun h => ?_) (fun h => ?_)
          · rcases hb with ⟨rfl, hb⟩ | ⟨rfl, hb, hc⟩
            · refine g_goto rfl ?_
              exact ih J u _ _ jM jF ju hu (by omega)
            · refine g_goto rfl ?_
              refine g_l 30 rfl rfl ?_
              refine g_if_eq rfl (by omega) (fun h2 => ?_) (fun h2 => ?_)
              · refine g_ret rfl rfl ⟨rfl, fun p hp => ?_, jF⟩
                rw [ju p hp]
                exact GI.uq hu (oth_end (fun j hj => hc j (by omega))) (fG_inv v).1 (fG_inv v).2 p hp
              · exact absurd rfl h2
          · exact absurd h (by omega)
        | succ m ih2 =>
          intro k J u b o3 hk jM jF ju hu hb
          have hbr : 0 ≤ b ∧ b ≤ 1 := by omega
          have ed : (k : Int) / 4 = ((k / 4 : Nat) : Int) := by omega
          have hb1 := b2i_r (prP v k)
          have ho1 := oth_rng (v := v) (k := k) (by omega)
          have hu1 := hu.1 (othP v k) ho1
          have hu2 := hu.1 (k / 4) (by omega)
          have rest : Go L (d + 6) k_X8_laysGroups 69 [some (vR 137), some (vI b), some (vI k), o3] [vI (othP v k : Nat)] J (fun r J => r = none ∧ (∀ p, p < fN v → J 143 p = fG v p) ∧ FrB I J) := by
            refine g_l 70 rfl rfl ?_
            refine g_l 71 rfl rfl ?_
            refine g_fr rfl rfl ⟨⟨by decide, by omega, by decide⟩, by decide⟩ rfl ?_
            refine g_l 75 rfl rfl ?_
            refine g_ia (othP v k) rfl rfl rfl (by omega) ?_
            rw [ju _ ho1]
            refine g_l 77 rfl rfl ?_
            refine g_fr rfl rfl ⟨⟨by decide, by omega, by decide⟩, by decide⟩ rfl ?_
            refine g_l 81 rfl rfl ?_
            refine g_p 82 rfl rfl ?_
            refine g_div 83 rfl (by omega) (by omega) ?_
            refine g_ia (k / 4) rfl rfl ed (by omega) ?_
            rw [ju _ (by omega)]
            refine g_ic_ge rfl (by omega) (by omega) (fun h => ?_) (fun h => ?_)
            · refine g_l 106 rfl rfl ?_
              refine g_goto rfl ?_
              refine ih2 (k + 1) J u b _ (by omega) jM jF ju hu ?_
              rcases hb with hb | ⟨hb, hb2, hb3⟩
              · exact Or.inl hb
              · refine Or.inr ⟨hb, hb2, fun j hj => ?_⟩
                by_cases hjk : j = k
                · rw [hjk]
                  exact h
                · exact hb3 j (by omega)
            · refine g_l 88 rfl rfl ?_
              refine g_fr rfl rfl ⟨⟨by decide, by omega, by decide⟩, by decide⟩ rfl ?_
              refine g_l 92 rfl rfl ?_
              refine g_p 93 rfl rfl ?_
              refine g_div 94 rfl (by omega) (by omega) ?_
              refine g_l 95 rfl rfl ?_
              refine g_fr rfl rfl ⟨⟨by decide, by omega, by decide⟩, by decide⟩ rfl ?_
              refine g_l 99 rfl rfl ?_
              refine g_ia (othP v k) rfl rfl rfl (by omega) ?_
              rw [ju _ ho1]
              refine g_ias (k / 4) rfl rfl (by omega) ed (by omega) ?_
              refine g_p 102 rfl rfl ?_
              refine g_l 103 rfl rfl ?_
              refine g_l 106 rfl rfl ?_
              refine g_goto rfl ?_
              refine ih2 (k + 1) _ (zup u (k / 4) (u (othP v k))) 1 _ (by omega) (fun j hj => by rw [zup2_ne (by omega)]; exact jM j hj) (fun q q1 q2 => by rw [zup2_ne q2]; exact jF q q1 q2) ?_ ⟨fun p hp => ?_, fun h3 hh p hp => ?_⟩ (Or.inl ⟨rfl, ?_⟩)
              · rw [zup2_fn]
                exact zup_pt ju rfl
              · by_cases hpk : p = k / 4
                · rw [hpk, zup_s]
                  omega
                · rw [zup_n hpk]
                  exact hu.1 p hp
              · by_cases hpk : p = k / 4
                · rw [hpk, zup_s, oth_cn hh (by omega)]
                  exact hu.2 h3 hh _ ho1
                · rw [zup_n hpk]
                  exact hu.2 h3 hh p hp
              · rw [sgF_up, if_pos (by omega)]
                omega
          refine g_l 38 rfl rfl ?_
          refine g_p 39 rfl rfl ?_
          refine g_l 40 rfl rfl ?_
          refine g_callE rfl (m_many (jF.al hA)) ?_ (hr := rcvM rfl)
          refine g_p 44 rfl rfl ?_
          refine g_ic_ge rfl (by omega) (by omega) (fun h => ?_) (fun h => ?_)
          · exact absurd h (by omega)
          · refine g_l 48 rfl rfl ?_
            refine g_l 49 rfl rfl ?_
            refine g_callE rfl (m_isPair hf.1 (by omega) jM) ?_ (hr := rcvM rfl)
            unfold othP at rest
            refine g_if_eq rfl (by omega) (fun h2 => ?_) (fun h2 => ?_)
            · rw [if_neg (b2i_0 h2), ← ed] at rest
              refine g_l 67 rfl rfl ?_
              refine g_p 68 rfl rfl ?_
              refine g_div 69 rfl (by omega) (by omega) ?_
              exact rest
            · have h2 := b2i_1 h2
              have hr := fM_rng v k
              have h21 := h2.1
              have ed2 : fM v k / 4 = (((fM v k).toNat / 4 : Nat) : Int) := by omega
              rw [if_pos h2, ← ed2] at rest
              refine g_l 56 rfl rfl ?_
              refine g_fr rfl rfl ⟨⟨by decide, by omega, by decide⟩, by decide⟩ rfl ?_
              refine g_l 60 rfl rfl ?_
              refine g_ia k rfl rfl rfl (by omega) ?_
              rw [jM k (by omega)]
              refine g_p 62 rfl rfl ?_
              refine g_div 63 rfl (by omega) (by omega) ?_
              refine g_goto rfl ?_
              exact rest
      refine g_l 30 rfl rfl ?_
      refine g_if_eq rfl (by omega) (fun h => ?_) (fun h => ?_)
      · exact absurd h (by decide)
      · refine g_p 34 rfl rfl ?_
        refine g_l 35 rfl rfl ?_
        refine g_p 36 rfl rfl ?_
        refine g_l 37 rfl rfl ?_
        exact inner (4 * fN v) 0 K g 0 _ (by omega) kM kF kg hg (Or.inr ⟨rfl, Int.le_refl _, fun j hj => absurd hj (by omega)⟩)
  have first : ∀ (m p : Nat) (K : zI) (o2 o3 : Option zV), p + m = fN v → (∀ k, k < 4 * fN v → K 142 k = fM v k) → FrB I K → (∀ j, j < p → K 143 j = (j : Int)) → Go L (d + 6) k_X8_laysGroups 6 [some (vR 137), some (vI p), o2, o3] [] K (fun r J => r = none ∧ (∀ p, p < fN v → J 143 p = fG v p) ∧ FrB I J) := by
    intro m
    induction m with
    | zero =>
      intro p K o2 o3 hp kM kF kg
      refine g_l 7 rfl rfl ?_
      refine g_l 8 rfl rfl ?_
      refine g_callE rfl (m_many (kF.al hA)) ?_ (hr := rcvM rfl)
      refine g_ic_ge rfl (by omega) (by omega) (fun g => ?_) (fun g => ?_)
      · refine g_p 28 rfl rfl ?_
        refine g_l 29 rfl rfl ?_
        exact outer ((sgF (fun p => (p : Int)) (fN v)).toNat + 1) K (fun p => (p : Int)) _ _ kM kF (fun j hj => kg j (by omega)) ⟨fun p hp => ⟨Int.natCast_nonneg _, Int.le_refl _⟩, fun h _ p _ => by rw [Int.toNat_natCast]⟩ (by omega)
      · exact absurd g (by omega)
    | succ m ih =>
      intro p K o2 o3 hp kM kF kg
      refine g_l 7 rfl rfl ?_
      refine g_l 8 rfl rfl ?_
      refine g_callE rfl (m_many (kF.al hA)) ?_ (hr := rcvM rfl)
      refine g_ic_ge rfl (by omega) (by omega) (fun g => ?_) (fun g => ?_)
      · exact absurd g (by omega)
      · refine g_l 15 rfl rfl ?_
        refine g_fr rfl rfl ⟨⟨by decide, by omega, by decide⟩, by decide⟩ rfl ?_
        refine g_l 19 rfl rfl ?_
        refine g_l 20 rfl rfl ?_
        refine g_ias p rfl rfl (by omega) rfl (by omega) ?_
        refine g_l 24 rfl rfl ?_
        refine g_goto rfl ?_
        refine ih (p + 1) _ _ _ (by omega) (fun j hj => by rw [zup2_ne (by omega)]; exact kM j hj) (fun q q1 q2 => by rw [zup2_ne q2]; exact kF q q1 q2) (fun j hj => ?_)
        by_cases hjp : j = p
        · rw [hjp, zup2_at]
        · rw [zup2_an hjp]
          exact kg j (by omega)
  show Go L (d + 6) k_X8_laysGroups 0 [some (vR 137), none, none, none] [] I _
  refine g_l 1 rfl rfl ?_
  refine g_call rfl (m_laysMates hA ho) (fun r J hJ => ?_) (hr := rcvM rfl)
  obtain ⟨rfl, j1, j2⟩ := hJ
  refine g_p 5 rfl rfl ?_
  refine g_l 6 rfl rfl ?_
  exact first (fN v) 0 J _ _ (by omega) j1 (fun q q1 _ => j2 q q1) (fun j hj => absurd hj (by omega))
theorem m_placeOf {k : Int} (hA : AL I v) (ho : OKv v) (hk : rng k) : Ev L (d + 2) k_X8_placeOf [vR 137, vI k] I (some (vI (pl (vc v) (fS v) k))) I := by
  have hS := fS_rng ho
  have h4 := ho.2.2.2.1
  have h0 := ho.1
  have key : ∀ (m p : Nat), (p : Int) + m = fS v → Go L (d + 2) k_X8_placeOf 2 [some (vR 137), some (vI k), some (vI p)] [] I (fun r J => r = some (vI (plF (vc v) k m p)) ∧ J = I) := by
    intro m
    induction m with
    | zero =>
      intro p hp
      refine g_l 3 rfl rfl ?_
      refine g_l 4 rfl rfl ?_
      refine g_callE rfl (m_places hA) ?_ (hr := rcvM rfl)
      refine g_ic_ge rfl (by omega) (by omega) (fun g => ?_) (fun g => ?_)
      · refine g_p 38 rfl rfl ?_
        exact g_ret rfl rfl ⟨rfl, rfl⟩
      · exact absurd g (by omega)
    | succ m ih =>
      intro p hp
      have h4p := h4 p (by omega)
      have next : ¬ (vc v p ≠ -1 ∧ vc v p / 4 = k) → Go L (d + 2) k_X8_placeOf 31 [some (vR 137), some (vI k), some (vI p)] [] I (fun r J => r = some (vI (plF (vc v) k (m + 1) p)) ∧ J = I) := fun hno => by
        refine g_l 34 rfl rfl ?_
        refine g_goto rfl ?_
        rw [plF, if_neg hno]
        exact ih (p + 1) (by omega)
      refine g_l 3 rfl rfl ?_
      refine g_l 4 rfl rfl ?_
      refine g_callE rfl (m_places hA) ?_ (hr := rcvM rfl)
      refine g_ic_ge rfl (by omega) (by omega) (fun g => ?_) (fun g => ?_)
      · exact absurd g (by omega)
      · refine g_l 11 rfl rfl ?_
        refine g_l 12 rfl rfl ?_
        refine g_callE rfl (m_lies hA (by omega)) ?_ (hr := rcvM rfl)
        refine g_if_lt rfl (by omega) (fun g2 => ?_) (fun g2 => ?_)
        · exact next (fun z => z.1 (show v (11 + p) = -1 by omega))
        · refine g_l 19 rfl rfl ?_
          refine g_l 20 rfl rfl ?_
          refine g_callE rfl (m_lies hA (by omega)) ?_ (hr := rcvM rfl)
          refine g_p 24 rfl rfl ?_
          refine g_div 25 rfl (by omega) (by omega) ?_
          refine g_l 26 rfl rfl ?_
          refine g_ic_ne rfl (by omega) (by omega) (fun g3 => ?_) (fun g3 => ?_)
          · exact next (fun z => g3 z.2)
          · refine g_l 30 rfl rfl ?_
            rw [plF, if_pos ⟨show v (11 + p) ≠ -1 by omega, Decidable.not_not.mp g3⟩]
            exact g_ret rfl rfl ⟨rfl, rfl⟩
  show Go L (d + 2) k_X8_placeOf 0 [some (vR 137), some (vI k), none] [] I _
  refine g_p 1 rfl rfl ?_
  refine g_l 2 rfl rfl ?_
  exact key (fS v).toNat 0 (by omega)
theorem pl_8 (ho : OKv v) (k : Int) : pl (vc v) (fS v) k = -1 ∨ (0 ≤ pl (vc v) (fS v) k ∧ pl (vc v) (fS v) k < fS v) := by
  have hS := fS_rng ho
  have := pl_rng (c := vc v) (n := fS v) (k := k) (by omega)
  omega
theorem m_ofPiece {p : Nat} {w : Int} (hA : AL I v) (ho : OKv v) (hp : p < fN v) (hw : 0 ≤ w ∧ w < 5) : Ct L (d + 7) k_X8_ofPiece [vR 137, vI p, vI w] I (fun r J => r = some (vI (ofA v p w)) ∧ FrB I J) := by
  have hf := fN_le ho
  show Go L (d + 7) k_X8_ofPiece 0 [some (vR 137), some (vI p), some (vI w), none] [] I _
  refine g_l 1 rfl rfl ?_
  refine g_p 2 rfl rfl ?_
  refine g_ic_ge rfl (by omega) (by omega) (fun g => ?_) (fun g => ?_)
  · refine g_l 24 rfl rfl ?_
    refine g_p 25 rfl rfl ?_
    refine g_ic_ne rfl (by omega) (by omega) (fun g2 => ?_) (fun g2 => ?_)
    · have hpr := pl_8 ho p
      have hS := fS_rng ho
      refine g_l 40 rfl rfl ?_
      refine g_l 41 rfl rfl ?_
      refine g_callE rfl (m_placeOf hA ho (by omega)) ?_ (hr := rcvM rfl)
      refine g_l 45 rfl rfl ?_
      refine g_l 46 rfl rfl ?_
      refine g_p 47 rfl rfl ?_
      unfold ofA
      rw [if_neg (by omega), if_neg (by omega), if_neg (by omega)]
      refine g_ic_ne rfl (by omega) (by omega) (fun g3 => ?_) (fun g3 => ?_)
      · rw [if_neg g3]
        unfold tn
        refine g_l 55 rfl rfl ?_
        refine g_p 56 rfl rfl ?_
        refine g_ic_ne rfl (by omega) (by omega) (fun g4 => ?_) (fun g4 => ?_)
        · rw [if_neg g4]
          obtain ⟨a, ha⟩ := Int.eq_ofNat_of_zero_le (show 0 ≤ pl (vc v) (fS v) p by omega)
          rw [ha, Int.toNat_natCast]
          rw [ha] at hpr
          have hpr := pl_rng (c := vc v) (n := fS v) (k := (p : Int)) (by omega)
          rw [ha] at hpr
          have h4 := ho.2.2.2.1 a (by omega)
          have hne : v (11 + a) ≠ -1 := by
            rcases hpr with hpr | hpr
            · omega
            · have := hpr.2.2.1
              rw [Int.toNat_natCast] at this
              exact this
          have h0 := ho.1
          refine g_l 64 rfl rfl ?_
          refine g_l 65 rfl rfl ?_
          refine g_callE rfl (m_lies hA (by omega)) ?_ (hr := rcvM rfl)
          refine g_p 69 rfl rfl ?_
          refine g_rem 70 rfl (by omega) (by omega) ?_
          exact g_ret rfl rfl ⟨rfl, FrB.rf⟩
        · rw [if_pos (Decidable.not_not.mp g4)]
          refine g_p 60 rfl rfl ?_
          refine g_goto rfl ?_
          exact g_ret rfl rfl ⟨rfl, FrB.rf⟩
      · rw [if_pos (Decidable.not_not.mp g3)]
        refine g_l 51 rfl rfl ?_
        refine g_goto rfl ?_
        exact g_ret rfl rfl ⟨rfl, FrB.rf⟩
    · have g2 : w = 2 := Decidable.not_not.mp g2
      subst g2
      refine g_l 29 rfl rfl ?_
      refine g_call rfl (m_laysGroups hA ho) (fun r J hJ => ?_) (hr := rcvM rfl)
      obtain ⟨rfl, j1, j2⟩ := hJ
      refine g_l 33 rfl rfl ?_
      refine g_fr rfl rfl ⟨⟨by decide, by omega, by decide⟩, by decide⟩ rfl ?_
      refine g_l 37 rfl rfl ?_
      refine g_ia p rfl rfl rfl (by omega) ?_
      rw [j1 p hp]
      exact g_ret rfl rfl ⟨rfl, j2⟩
  · refine g_l 6 rfl rfl ?_
    refine g_if_ne rfl (by omega) (fun g2 => ?_) (fun g2 => ?_)
    · have g2 : w = 1 := by omega
      subst g2
      refine g_l 18 rfl rfl ?_
      refine g_l 19 rfl rfl ?_
      refine g_callE rfl (m_flats hA hf.1 hp) ?_ (hr := rcvM rfl)
      exact g_ret rfl rfl ⟨rfl, FrB.rf⟩
    · have g2 : w = 0 := Decidable.not_not.mp g2
      subst g2
      refine g_l 10 rfl rfl ?_
      refine g_l 11 rfl rfl ?_
      refine g_callE rfl (m_sort hA hf.1 hp) ?_ (hr := rcvM rfl)
      refine g_goto rfl ?_
      exact g_ret rfl rfl ⟨rfl, FrB.rf⟩
end MG
