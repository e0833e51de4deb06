/-! Sides: pairs, groups, and what follows the pieces -/
abbrev lowP (M : Nat → Int) (k : Nat) : Prop := (k : Int) < M k ∧ M (M k).toNat = k
/-- b's first m places by F -/
def mpN (I : zI) (b : Nat) (F : Int → Int) (m : Nat) : zI := fun q => if q = b then (fun j => if j < m then F (I b j) else I b j) else I q
theorem mpN_0 (I : zI) (b : Nat) (F : Int → Int) : mpN I b F 0 = I := by
  funext q j
  unfold mpN
  split
  · rename_i h
    subst h
    simp
  · rfl
theorem mpN_s {I : zI} {b m : Nat} {F : Int → Int} {x : Int} (hx : x = F (I b m)) : zup2 (mpN I b F m) b m x = mpN I b F (m + 1) := by
  subst hx
  funext q j
  unfold zup2 mpN zup
  by_cases h : q = b
  · subst h
    by_cases h2 : j = m
    · subst h2
      simp
    · have e : (j < m + 1) = (j < m) := by
        apply propext
        omega
      simp [h2, e]
  · simp [h]
theorem mpN_k {I : zI} {b m : Nat} {F : Int → Int} (hx : I b m = F (I b m)) : mpN I b F m = mpN I b F (m + 1) := by
  funext q j
  unfold mpN
  by_cases h : q = b
  · subst h
    simp only [if_true]
    by_cases h2 : j = m
    · subst h2
      rw [if_neg (by omega), if_pos (by omega)]
      exact hx
    · by_cases h3 : j < m
      · rw [if_pos h3, if_pos (by omega)]
      · rw [if_neg h3, if_neg (by omega)]
  · rw [if_neg h, if_neg h]
theorem mpN_ne {I : zI} {b q m : Nat} {F : Int → Int} (h : q ≠ b) : mpN I b F m q = I q := if_neg h
theorem mpN_at {I : zI} {b m : Nat} {F : Int → Int} : mpN I b F m b m = I b m := by simp [mpN]
theorem mpN_in {I : zI} {b m j : Nat} {F : Int → Int} (h : j < m) : mpN I b F m b j = F (I b j) := by simp [mpN, h]
def mg (a b x : Int) : Int := if x = a ∨ x = b then (if b < a then b else a) else x
/-- the groups: from side s on -/
def jgF (M : Nat → Int) : Nat → Nat → (Nat → Int) → Nat → Int
  | 0, _, g => g
  | m + 1, s, g => jgF M m (s + 1) (if lowP M s then fun p => mg (g (s / 4)) (g ((M s).toNat / 4)) (g p) else g)
def gr (M : Nat → Int) (n : Nat) : Nat → Int := jgF M (4 * n) 0 (fun p => (p : Int))
/-- the mates as they are held -/
def MtOK (M : Nat → Int) (N : Nat) : Prop := ∀ k, k < N → -1 ≤ M k ∧ M k < N
section SG
variable {L d : Nat} {I : zI}
theorem c_lower {n k : Nat} {M : Nat → Int} (hn : n ≤ 8) (hk : k < 4 * n) (hM : ∀ k, k < 4 * n → I 73 k = M k) (hO : MtOK M (4 * n)) : Ev L d k_X4_isLowerOfPair [vR 37, vI k] I (some (vI (b2i (lowP M k)))) I := by
  have h1 := hO k hk
  show Go L d k_X4_isLowerOfPair 0 [some (vR 37), some (vI k), none] [] I _
  refine g_l 1 rfl rfl ?_
  refine g_fr rfl rfl ⟨⟨by decide, by omega, by decide⟩, by decide⟩ rfl ?_
  refine g_l 5 rfl rfl ?_
  refine g_ia k rfl rfl rfl (by omega) ?_
  rw [hM k hk]
  refine g_l 7 rfl rfl ?_
  refine g_l 8 rfl rfl ?_
  refine g_l 9 rfl rfl ?_
  refine g_ic_le rfl (by omega) (by omega) (fun h => ?_) (fun h => ?_)
  · refine g_p 27 rfl rfl ?_
    exact g_retb rfl rfl (Or.inl rfl) ⟨by rw [← b2i_f (fun q => absurd q.1 (by omega))], rfl⟩
  · have h2 := hO (M k).toNat (by omega)
    refine g_l 13 rfl rfl ?_
    refine g_fr rfl rfl ⟨⟨by decide, by omega, by decide⟩, by decide⟩ rfl ?_
    refine g_l 17 rfl rfl ?_
    refine g_ia (M k).toNat rfl rfl (by omega) (by omega) ?_
    rw [hM _ (by omega)]
    refine g_l 19 rfl rfl ?_
    refine g_ic_ne rfl (by omega) (by omega) (fun h3 => ?_) (fun h3 => ?_)
    · refine g_p 27 rfl rfl ?_
      exact g_retb rfl rfl (Or.inl rfl) ⟨by rw [← b2i_f (fun q => h3 q.2)], rfl⟩
    · refine g_p 23 rfl rfl ?_
      refine g_goto rfl ?_
      exact g_retb rfl rfl (Or.inr rfl) ⟨by rw [← b2i_t ⟨by omega, by omega⟩], rfl⟩
theorem c_mergeGroups {n : Nat} {a b : Int} (hn : n ≤ 8) (h0 : I 37 0 = n) (hg : ∀ p, p < n → rng (I 74 p)) (ha : rng a) (hb : rng b) : Ev L (d + 1) k_X4_mergeGroups [vR 37, vI a, vI b] I none (mpN I 74 (mg a b) n) := by
  have key : ∀ (m p : Nat), p + m = n → Go L (d + 1) k_X4_mergeGroups 2 [some (vR 37), some (vI a), some (vI b), some (vI p)] [] (mpN I 74 (mg a b) p) (fun r J => r = none ∧ J = mpN I 74 (mg a b) n) := by
    intro m
    induction m with
    | zero =>
      intro p hp
      refine g_l 3 rfl rfl ?_
      refine g_l 4 rfl rfl ?_
      refine g_fi rfl rfl ⟨⟨by decide, by omega, by decide⟩, by decide⟩ ?_
      rw [mpN_ne (by omega), h0]
      refine g_ic_ge rfl (by omega) (by omega) (fun h => ?_) (fun h => ?_)
      · have e : p = n := by omega
        subst e
        exact g_ret rfl rfl ⟨rfl, rfl⟩
      · exact absurd h (by omega)
    | succ m ih =>
      intro p hp
      have hr := hg p (by omega)
      have put : (I 74 p = a ∨ I 74 p = b) → Go L (d + 1) k_X4_mergeGroups 30 [some (vR 37), some (vI a), some (vI b), some (vI p)] [] (mpN I 74 (mg a b) p) (fun r J => r = none ∧ J = mpN I 74 (mg a b) n) := fun hab => by
        refine g_l 31 rfl rfl ?_
        refine g_fr rfl rfl ⟨⟨by decide, by omega, by decide⟩, by decide⟩ rfl ?_
        refine g_l 35 rfl rfl ?_
        refine g_l 36 rfl rfl ?_
        refine g_l 37 rfl rfl ?_
        refine g_min 40 rfl (by omega) (by omega) (Nat.le_of_ble_eq_true rfl) ?_
        refine g_ias p rfl rfl (by omega) rfl (by omega) ?_
        rw [mpN_s (x := if b < a then b else a) (by unfold mg; rw [if_pos hab])]
        refine g_l 44 rfl rfl ?_
        refine g_goto rfl ?_
        exact ih (p + 1) (by omega)
      refine g_l 3 rfl rfl ?_
      refine g_l 4 rfl rfl ?_
      refine g_fi rfl rfl ⟨⟨by decide, by omega, by decide⟩, by decide⟩ ?_
      rw [mpN_ne (by omega), h0]
      refine g_ic_ge rfl (by omega) (by omega) (fun h => ?_) (fun h => ?_)
      · exact absurd h (by omega)
      · refine g_l 11 rfl rfl ?_
        refine g_fr rfl rfl ⟨⟨by decide, by omega, by decide⟩, by decide⟩ rfl ?_
        refine g_l 15 rfl rfl ?_
        refine g_ia p rfl rfl rfl (by omega) ?_
        rw [mpN_at]
        refine g_l 17 rfl rfl ?_
        refine g_ic_eq rfl (by omega) (by omega) (fun h1 => ?_) (fun h1 => ?_)
        · exact put (Or.inl h1)
        · refine g_l 21 rfl rfl ?_
          refine g_fr rfl rfl ⟨⟨by decide, by omega, by decide⟩, by decide⟩ rfl ?_
          refine g_l 25 rfl rfl ?_
          refine g_ia p rfl rfl rfl (by omega) ?_
          rw [mpN_at]
          refine g_l 27 rfl rfl ?_
          refine g_ic_ne rfl (by omega) (by omega) (fun h2 => ?_) (fun h2 => ?_)
          · rw [mpN_k (m := p) (by unfold mg; rw [if_neg (fun q => q.elim h1 h2)])]
            refine g_l 44 rfl rfl ?_
            refine g_goto rfl ?_
            exact ih (p + 1) (by omega)
          · exact put (Or.inr (by omega))
  show Go L (d + 1) k_X4_mergeGroups 0 [some (vR 37), some (vI a), some (vI b), none] [] I _
  refine g_p 1 rfl rfl ?_
  refine g_l 2 rfl rfl ?_
  have h := key n 0 (by omega)
  rw [mpN_0] at h
  exact h
theorem jgF_rng {M : Nat → Int} {n : Nat} : ∀ (m s : Nat) (g : Nat → Int), (∀ p, p < n → 0 ≤ g p ∧ g p < 8) → s + m = 4 * n → MtOK M (4 * n) → ∀ p, p < n → 0 ≤ jgF M m s g p ∧ jgF M m s g p < 8
  | 0, _, _, h, _, _ => h
  | m + 1, s, g, h, hs, hM => by
    unfold jgF
    refine jgF_rng m (s + 1) _ (fun p hp => ?_) (by omega) hM
    split
    · rename_i hl
      have h1 := h p hp
      have h2 := h (s / 4) (by omega)
      have h3 := hM s (by omega)
      have h4 := h ((M s).toNat / 4) (by omega)
      simp only [mg]
      split
      · split <;> omega
      · exact h1
    · exact h p hp
theorem c_joinGroups {n : Nat} {M : Nat → Int} (hn : n ≤ 8) (h0 : I 37 0 = n) (hM : ∀ k, k < 4 * n → I 73 k = M k) (hO : MtOK M (4 * n)) : Ct L (d + 2) k_X4_joinGroups [vR 37] I (fun r J => r = none ∧ (∀ p, p < n → J 74 p = gr M n p) ∧ ∀ q, q ≠ 74 → J q = I q) := by
  have loop2 : ∀ (m s : Nat) (J : zI) (g : Nat → Int), s + m = 4 * n → (∀ p, p < n → J 74 p = g p) → (∀ p, p < n → 0 ≤ g p ∧ g p < 8) → (∀ q, q ≠ 74 → J q = I q) → Go L (d + 2) k_X4_joinGroups 25 [some (vR 37), some (vI s)] [] J (fun r J => r = none ∧ (∀ p, p < n → J 74 p = jgF M m s g p) ∧ ∀ q, q ≠ 74 → J q = I q) := by
    intro m
    induction m with
    | zero =>
      intro s J g hs hJ hg hF
      refine g_l 26 rfl rfl ?_
      refine g_p 27 rfl rfl ?_
      refine g_l 28 rfl rfl ?_
      refine g_fi rfl rfl ⟨⟨by decide, by omega, by decide⟩, by decide⟩ ?_
      refine g_p 32 rfl rfl ?_
      rw [hF 37 (by omega), h0]
      refine g_ic_ge rfl (by omega) (by omega) (fun h => ?_) (fun h => ?_)
      · exact g_ret rfl rfl ⟨rfl, hJ, hF⟩
      · exact absurd h (by omega)
    | succ m ih =>
      intro s J g hs hJ hg hF
      have hb := b2i_r (lowP M s)
      refine g_l 26 rfl rfl ?_
      refine g_p 27 rfl rfl ?_
      refine g_l 28 rfl rfl ?_
      refine g_fi rfl rfl ⟨⟨by decide, by omega, by decide⟩, by decide⟩ ?_
      refine g_p 32 rfl rfl ?_
      rw [hF 37 (by omega), h0]
      refine g_ic_ge rfl (by omega) (by omega) (fun h => ?_) (fun h => ?_)
      · exact absurd h (by omega)
      · refine g_l 36 rfl rfl ?_
        refine g_l 37 rfl rfl ?_
        refine g_callE rfl (c_lower hn (by omega) (fun k hk => by rw [hF 73 (by omega)]; exact hM k hk) hO) ?_
        refine g_if_eq rfl (by omega) (fun h1 => ?_) (fun h1 => ?_)
        · have h1 := b2i_0 h1
          refine g_l 71 rfl rfl ?_
          refine g_goto rfl ?_
          rw [jgF, if_neg h1]
          exact ih (s + 1) J g (by omega) hJ hg hF
        · have h1 := b2i_1 h1
          have hMs := hO s (by omega)
          have g1 := hg (s / 4) (by omega)
          have g2 := hg ((M s).toNat / 4) (by omega)
          refine g_l 44 rfl rfl ?_
          refine g_l 45 rfl rfl ?_
          refine g_fr rfl rfl ⟨⟨by decide, by omega, by decide⟩, by decide⟩ rfl ?_
          refine g_l 49 rfl rfl ?_
          refine g_p 50 rfl rfl ?_
          refine g_div 51 rfl (by omega) (by omega) ?_
          refine g_ia (s / 4) rfl rfl (by omega) (by omega) ?_
          rw [hJ _ (by omega)]
          refine g_l 53 rfl rfl ?_
          refine g_fr rfl rfl ⟨⟨by decide, by omega, by decide⟩, by decide⟩ rfl ?_
          refine g_l 57 rfl rfl ?_
          refine g_fr rfl rfl ⟨⟨by decide, by omega, by decide⟩, by decide⟩ rfl ?_
          refine g_l 61 rfl rfl ?_
          refine g_ia s rfl rfl rfl (by omega) ?_
          rw [hF 73 (by omega), hM s (by omega)]
          refine g_p 63 rfl rfl ?_
          refine g_div 64 rfl (by omega) (by omega) ?_
          refine g_ia ((M s).toNat / 4) rfl rfl (by omega) (by omega) ?_
          rw [hJ _ (by omega)]
          refine g_callE rfl (c_mergeGroups hn (by rw [hF 37 (by omega)]; exact h0) (fun p hp => by rw [hJ p hp]; have := hg p hp; omega) (by omega) (by omega)) ?_
          refine g_l 71 rfl rfl ?_
          refine g_goto rfl ?_
          rw [jgF, if_pos h1]
          refine ih (s + 1) _ _ (by omega) (fun p hp => ?_) (fun p hp => ?_) (fun q hq => ?_)
          · rw [mpN_in hp, hJ p hp]
          · have g3 := hg p hp
            simp only [mg]
            split
            · split <;> omega
            · exact g3
          · rw [mpN_ne hq]
            exact hF q hq
  have loop1 : ∀ (m p : Nat), p + m = n → Go L (d + 2) k_X4_joinGroups 2 [some (vR 37), some (vI p)] [] (wrN I 74 (fun p => (p : Int)) p) (fun r J => r = none ∧ (∀ p, p < n → J 74 p = gr M n p) ∧ ∀ q, q ≠ 74 → J q = I q) := by
    intro m
    induction m with
    | zero =>
      intro p hp
      refine g_l 3 rfl rfl ?_
      refine g_l 4 rfl rfl ?_
      refine g_fi rfl rfl ⟨⟨by decide, by omega, by decide⟩, by decide⟩ ?_
      rw [wrN_ne (by omega), h0]
      refine g_ic_ge rfl (by omega) (by omega) (fun h => ?_) (fun h => ?_)
      · refine g_p 24 rfl rfl ?_
        refine g_l 25 rfl rfl ?_
        refine loop2 (4 * n) 0 _ (fun p => (p : Int)) (by omega) (fun q hq => wrN_at (by omega)) (fun q hq => by omega) (fun q hq => wrN_ne hq)
      · exact absurd h (by omega)
    | succ m ih =>
      intro p hp
      refine g_l 3 rfl rfl ?_
      refine g_l 4 rfl rfl ?_
      refine g_fi rfl rfl ⟨⟨by decide, by omega, by decide⟩, by decide⟩ ?_
      rw [wrN_ne (by omega), h0]
      refine g_ic_ge rfl (by omega) (by omega) (fun h => ?_) (fun h => ?_)
      · exact absurd h (by omega)
      · refine g_l 11 rfl rfl ?_
        refine g_fr rfl rfl ⟨⟨by decide, by omega, by decide⟩, by decide⟩ rfl ?_
        refine g_l 15 rfl rfl ?_
        refine g_l 16 rfl rfl ?_
        refine g_ias p rfl rfl (by omega) rfl (by omega) ?_
        rw [wrN_s (f := fun p => (p : Int)) rfl]
        refine g_l 20 rfl rfl ?_
        refine g_goto rfl ?_
        exact ih (p + 1) (by omega)
  show Go L (d + 2) k_X4_joinGroups 0 [some (vR 37), none] [] I _
  refine g_p 1 rfl rfl ?_
  refine g_l 2 rfl rfl ?_
  have h := loop1 n 0 (by omega)
  rw [wrN_0] at h
  exact h
end SG
