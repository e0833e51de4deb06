/-! Sides: all differences, mates, pairs -/
theorem Sh0_at {L a : Nat} (h : a < 135) : (Sh0 L)[a + 2]? = Sh1[a]? := by
  have hl : Sh1.length = 135 := rfl
  rw [Sh0_cons, List.getElem?_cons_succ, List.getElem?_cons_succ, List.getElem?_append_left (by omega)]
theorem S41 {L p : Nat} (hp : p < 32) : (Sh0 L)[41 + p]? = some (100, 32) := by
  rw [show 41 + p = (39 + p) + 2 by omega, Sh0_at (by omega)]
  revert p
  decide
theorem R40 : ∀ p, p < 32 → (R0.getD 40 []).getD p none = some (41 + p) := by decide
theorem ab_comm (x y : Int) : ab (x - y) = ab (y - x) := by
  unfold ab
  split <;> split <;> omega
theorem dif_comm (a b : Int) : dif a b = dif b a := by
  unfold dif
  simp only [difF]
  have h0 := ab_comm (col a (3 - ((0 : Nat) : Int))) (col b ((0 : Nat) : Int))
  have h1 := ab_comm (col a (3 - ((0 + 1 : Nat) : Int))) (col b ((0 + 1 : Nat) : Int))
  have h2 := ab_comm (col a (3 - ((0 + 1 + 1 : Nat) : Int))) (col b ((0 + 1 + 1 : Nat) : Int))
  have h3 := ab_comm (col a (3 - ((0 + 1 + 1 + 1 : Nat) : Int))) (col b ((0 + 1 + 1 + 1 : Nat) : Int))
  rw [h0, h1, h2, h3]
  have e0 : (3 - ((0 : Nat) : Int)) = ((0 + 1 + 1 + 1 : Nat) : Int) := by decide
  have e1 : (3 - ((0 + 1 : Nat) : Int)) = ((0 + 1 + 1 : Nat) : Int) := by decide
  have e2 : (3 - ((0 + 1 + 1 : Nat) : Int)) = ((0 + 1 : Nat) : Int) := by decide
  have e3 : (3 - ((0 + 1 + 1 + 1 : Nat) : Int)) = ((0 : Nat) : Int) := by decide
  rw [e0, e1, e2, e3]
  omega
/-- the edge of side k of all -/
def ek (c : Nat → Int) (k : Nat) : Int := eg (c (k / 4)) (k % 4)
/-- the differences stand -/
def DfAt (I : zI) (f : Nat → Int) (N : Nat) : Prop := ∀ x y, x < N → y < N → x ≠ y → I (41 + x) y = dif (f x) (f y)
/-- the best of the sides from o on -/
def mtF (f : Nat → Int) (k : Nat) : Nat → Nat → Int → Int → Int
  | 0, _, b, _ => b
  | m + 1, o, b, l => if (o / 4 ≠ k / 4 ∧ f o ≠ 0) ∧ dif (f k) (f o) < l then mtF f k m (o + 1) o (dif (f k) (f o)) else mtF f k m (o + 1) b l
def mt (f : Nat → Int) (N k : Nat) : Int := if f k = 0 then -1 else mtF f k N 0 (-1) 1000
theorem mtF_rng (f : Nat → Int) (k : Nat) : ∀ (m o : Nat) (b l : Int), mtF f k m o b l = b ∨ ((o : Int) ≤ mtF f k m o b l ∧ mtF f k m o b l < o + m ∧ (mtF f k m o b l).toNat / 4 ≠ k / 4 ∧ f (mtF f k m o b l).toNat ≠ 0)
  | 0, o, b, l => Or.inl rfl
  | m + 1, o, b, l => by
    unfold mtF
    split
    · rename_i h
      rcases mtF_rng f k m (o + 1) o (dif (f k) (f o)) with h1 | h1
      · right
        rw [h1, Int.toNat_natCast]
        exact ⟨by omega, by omega, h.1⟩
      · exact Or.inr ⟨by omega, by omega, h1.2.2⟩
    · rcases mtF_rng f k m (o + 1) b l with h1 | h1
      · exact Or.inl h1
      · exact Or.inr ⟨by omega, by omega, h1.2.2⟩
theorem mt_rng (f : Nat → Int) (N k : Nat) : mt f N k = -1 ∨ (0 ≤ mt f N k ∧ mt f N k < N ∧ (mt f N k).toNat / 4 ≠ k / 4 ∧ f (mt f N k).toNat ≠ 0 ∧ f k ≠ 0) := by
  unfold mt
  split
  · exact Or.inl rfl
  · rename_i h
    rcases mtF_rng f k N 0 (-1) 1000 with h1 | h1
    · exact Or.inl h1
    · exact Or.inr ⟨by omega, by omega, h1.2.2.1, h1.2.2.2, h⟩
section SE
variable {L d : Nat} {I : zI}
theorem c_compareSides {n : Nat} {f : Nat → Int} (hn : n ≤ 8) (h0 : I 37 0 = n) (hf : ∀ k, k < 4 * n → I 39 k = f k) : Ct L (d + 2) k_X4_compareSides [vR 37] I (fun r J => r = none ∧ DfAt J f (4 * n) ∧ ∀ q, (q < 41 ∨ 73 ≤ q) → J q = I q) := by
  have inner : ∀ (a : Nat), a < 4 * n → (∀ (J : zI) (o2 o3 : Option zV), (∀ x y, x < a + 1 → y < a + 1 → x ≠ y → J (41 + x) y = dif (f x) (f y)) → (∀ q, (q < 41 ∨ 73 ≤ q) → J q = I q) → Go L (d + 2) k_X4_compareSides 2 [some (vR 37), some (vI ((a : Int) + 1)), o2, o3] [] J (fun r J => r = none ∧ DfAt J f (4 * n) ∧ ∀ q, (q < 41 ∨ 73 ≤ q) → J q = I q)) →
      ∀ (m b : Nat) (J : zI) (o3 : Option zV), b + m = a → (∀ x y, x ≠ y → (x < a ∧ y < a ∨ x = a ∧ y < b ∨ y = a ∧ x < b) → J (41 + x) y = dif (f x) (f y)) → (∀ q, (q < 41 ∨ 73 ≤ q) → J q = I q) →
      Go L (d + 2) k_X4_compareSides 14 [some (vR 37), some (vI a), some (vI b), o3] [] J (fun r J => r = none ∧ DfAt J f (4 * n) ∧ ∀ q, (q < 41 ∨ 73 ≤ q) → J q = I q) := by
    intro a ha next m
    induction m with
    | zero =>
      intro b J o3 hb hJ hF
      have e : b = a := by omega
      subst e
      refine g_l 15 rfl rfl ?_
      refine g_l 16 rfl rfl ?_
      refine g_ic_ge rfl (by omega) (by omega) (fun h => ?_) (fun h => ?_)
      · refine g_l 62 rfl rfl ?_
        refine g_goto rfl ?_
        exact next J _ _ (fun x y hx hy hne => hJ x y hne (by omega)) hF
      · exact absurd h (by omega)
    | succ m ih =>
      intro b J o3 hb hJ hF
      refine g_l 15 rfl rfl ?_
      refine g_l 16 rfl rfl ?_
      refine g_ic_ge rfl (by omega) (by omega) (fun h => ?_) (fun h => ?_)
      · exact absurd h (by omega)
      · refine g_l 20 rfl rfl ?_
        refine g_fr rfl rfl ⟨⟨by decide, by omega, by decide⟩, by decide⟩ rfl ?_
        refine g_l 24 rfl rfl ?_
        refine g_ia a rfl rfl rfl (by omega) ?_
        rw [hF 39 (by omega), hf a (by omega)]
        refine g_l 26 rfl rfl ?_
        refine g_fr rfl rfl ⟨⟨by decide, by omega, by decide⟩, by decide⟩ rfl ?_
        refine g_l 30 rfl rfl ?_
        refine g_ia b rfl rfl rfl (by omega) ?_
        rw [hF 39 (by omega), hf b (by omega)]
        refine g_callE rfl c_differenceOf ?_
        refine g_l 35 rfl rfl ?_
        refine g_l 36 rfl rfl ?_
        refine g_fr rfl rfl ⟨⟨by decide, by omega, by decide⟩, by decide⟩ rfl ?_
        refine g_l 40 rfl rfl ?_
        refine g_aa (c9 := 103) (n := 32) a rfl rfl ⟨Or.inl rfl, by omega⟩ rfl (by omega) (R40 a (by omega)) ?_
        refine g_l 42 rfl rfl ?_
        refine g_l 43 rfl rfl ?_
        refine g_ias b rfl (S41 (by omega)) (by omega) rfl (by omega) ?_
        refine g_l 45 rfl rfl ?_
        refine g_fr rfl rfl ⟨⟨by decide, by omega, by decide⟩, by decide⟩ rfl ?_
        refine g_l 49 rfl rfl ?_
        refine g_aa (c9 := 103) (n := 32) b rfl rfl ⟨Or.inl rfl, by omega⟩ rfl (by omega) (R40 b (by omega)) ?_
        refine g_l 51 rfl rfl ?_
        refine g_l 52 rfl rfl ?_
        refine g_ias a rfl (S41 (by omega)) (by omega) rfl (by omega) ?_
        refine g_l 56 rfl rfl ?_
        refine g_goto rfl ?_
        refine ih (b + 1) _ _ (by omega) (fun x y hne hxy => ?_) (fun q hq => ?_)
        · by_cases c1 : x = b ∧ y = a
          · obtain ⟨rfl, rfl⟩ := c1
            rw [zup2_at, dif_comm]
          · by_cases c2 : x = a ∧ y = b
            · obtain ⟨rfl, rfl⟩ := c2
              rw [zup2_ne (by omega), zup2_at]
            · have e1 : zup2 (zup2 J (41 + a) b (dif (f a) (f b))) (41 + b) a (dif (f a) (f b)) (41 + x) y = J (41 + x) y := by
                by_cases c3 : x = b
                · subst c3
                  rw [zup2_an (by omega), zup2_ne (by omega)]
                · rw [zup2_ne (by omega)]
                  by_cases c4 : x = a
                  · subst c4
                    rw [zup2_an (by omega)]
                  · rw [zup2_ne (by omega)]
              rw [e1]
              exact hJ x y hne (by omega)
        · rw [zup2_ne (by omega), zup2_ne (by omega)]
          exact hF q hq
  have key : ∀ (m a : Nat) (J : zI) (o2 o3 : Option zV), a + m = 4 * n → (∀ x y, x < a → y < a → x ≠ y → J (41 + x) y = dif (f x) (f y)) → (∀ q, (q < 41 ∨ 73 ≤ q) → J q = I q) → Go L (d + 2) k_X4_compareSides 2 [some (vR 37), some (vI a), o2, o3] [] J (fun r J => r = none ∧ DfAt J f (4 * n) ∧ ∀ q, (q < 41 ∨ 73 ≤ q) → J q = I q) := by
    intro m
    induction m with
    | zero =>
      intro a J o2 o3 ha hJ hF
      refine g_l 3 rfl rfl ?_
      refine g_p 4 rfl rfl ?_
      refine g_l 5 rfl rfl ?_
      refine g_fi rfl rfl ⟨⟨by decide, by omega, by decide⟩, by decide⟩ ?_
      refine g_p 9 rfl rfl ?_
      rw [hF 37 (by omega), h0]
      refine g_ic_ge rfl (by omega) (by omega) (fun h => ?_) (fun h => ?_)
      · have e : a = 4 * n := by omega
        subst e
        exact g_ret rfl rfl ⟨rfl, hJ, hF⟩
      · exact absurd h (by omega)
    | succ m ih =>
      intro a J o2 o3 ha hJ hF
      refine g_l 3 rfl rfl ?_
      refine g_p 4 rfl rfl ?_
      refine g_l 5 rfl rfl ?_
      refine g_fi rfl rfl ⟨⟨by decide, by omega, by decide⟩, by decide⟩ ?_
      refine g_p 9 rfl rfl ?_
      rw [hF 37 (by omega), h0]
      refine g_ic_ge rfl (by omega) (by omega) (fun h => ?_) (fun h => ?_)
      · exact absurd h (by omega)
      · refine g_p 13 rfl rfl ?_
        refine g_l 14 rfl rfl ?_
        exact inner a (by omega) (fun J o2 o3 h1 h2 => ih (a + 1) J o2 o3 (by omega) h1 h2) a 0 J _ (by omega) (fun x y hne hxy => hJ x y (by omega) (by omega) hne) hF
  show Go L (d + 2) k_X4_compareSides 0 [some (vR 37), none, none, none] [] I _
  refine g_p 1 rfl rfl ?_
  refine g_l 2 rfl rfl ?_
  exact key (4 * n) 0 I none none (by omega) (fun x y hx => by omega) (fun _ _ => rfl)
theorem c_findMate {n k : Nat} {f : Nat → Int} (hn : n ≤ 8) (hk : k < 4 * n) (h0 : I 37 0 = n) (hf : ∀ k, k < 4 * n → I 39 k = f k) (hfr : ∀ k, 0 ≤ f k ∧ f k ≤ 255) (hD : DfAt I f (4 * n)) : Ev L (d + 1) k_X4_findMate [vR 37, vI k] I (some (vI (mt f (4 * n) k))) I := by
  have hdr : ∀ x y, 0 ≤ dif x y ∧ dif x y ≤ 12 := fun x y => by
    have := difF_rng x y 4 0
    unfold dif
    omega
  have key : ∀ (m o : Nat) (b l : Int) (o5 : Option zV), o + m = 4 * n → rng b → (0 ≤ l ∧ l ≤ 1000) → f k ≠ 0 → Go L (d + 1) k_X4_findMate 9 [some (vR 37), some (vI k), some (vI b), some (vI l), some (vI o), o5] [] I (fun r J => r = some (vI (mtF f k m o b l)) ∧ J = I) := by
    intro m
    induction m with
    | zero =>
      intro o b l o5 ho hb hl hfk
      refine g_l 11 rfl rfl ?_
      refine g_p 12 rfl rfl ?_
      refine g_l 13 rfl rfl ?_
      refine g_fi rfl rfl ⟨⟨by decide, by omega, by decide⟩, by decide⟩ ?_
      refine g_p 17 rfl rfl ?_
      rw [h0]
      refine g_ic_ge rfl (by omega) (by omega) (fun h => ?_) (fun h => ?_)
      · refine g_l 92 rfl rfl ?_
        exact g_ret rfl rfl ⟨rfl, rfl⟩
      · exact absurd h (by omega)
    | succ m ih =>
      intro o b l o5 ho hb hl hfk
      have hr1 := hfr k
      have hr2 := hfr o
      have hb1 := b2i_r (I 39 k = 0)
      have hb2 := b2i_r (I 39 o = 0)
      have hdr1 := hdr (f k) (f o)
      refine g_l 11 rfl rfl ?_
      refine g_p 12 rfl rfl ?_
      refine g_l 13 rfl rfl ?_
      refine g_fi rfl rfl ⟨⟨by decide, by omega, by decide⟩, by decide⟩ ?_
      refine g_p 17 rfl rfl ?_
      rw [h0]
      refine g_ic_ge rfl (by omega) (by omega) (fun h => ?_) (fun h => ?_)
      · exact absurd h (by omega)
      · refine g_l 21 rfl rfl ?_
        refine g_l 22 rfl rfl ?_
        refine g_callE rfl (c_isFlat (by omega) (by rw [hf k hk]; omega)) ?_
        refine g_if_ne rfl (by omega) (fun h1 => ?_) (fun h1 => ?_)
        · have h1 := b2i_1 h1
          rw [hf k hk] at h1
          exact absurd h1 hfk
        · refine g_l 30 rfl rfl ?_
          refine g_p 31 rfl rfl ?_
          refine g_div 32 rfl (by omega) (by omega) ?_
          refine g_l 33 rfl rfl ?_
          refine g_p 34 rfl rfl ?_
          refine g_div 35 rfl (by omega) (by omega) ?_
          have no : ∀ (o5 : Option zV), ¬ ((o / 4 ≠ k / 4 ∧ f o ≠ 0) ∧ dif (f k) (f o) < l) → Go L (d + 1) k_X4_findMate 85 [some (vR 37), some (vI k), some (vI b), some (vI l), some (vI o), o5] [] I (fun r J => r = some (vI (mtF f k (m + 1) o b l)) ∧ J = I) := by
            intro o5 hno
            refine g_l 88 rfl rfl ?_
            refine g_goto rfl ?_
            rw [mtF, if_neg hno]
            exact ih (o + 1) b l _ (by omega) hb hl hfk
          refine g_ic_eq rfl (by omega) (by omega) (fun h2 => ?_) (fun h2 => ?_)
          · refine g_p 52 rfl rfl ?_
            refine g_l 54 rfl rfl ?_
            refine g_l 56 rfl rfl ?_
            refine g_if_eq rfl (by omega) (fun h3 => ?_) (fun h3 => ?_)
            · exact no _ (fun q => q.1.1 (by omega))
            · exact absurd rfl h3
          · refine g_l 39 rfl rfl ?_
            refine g_l 41 rfl rfl ?_
            refine g_callE rfl (c_isFlat (by omega) (by rw [hf o (by omega)]; omega)) ?_
            refine g_if_ne rfl (by omega) (fun h3 => ?_) (fun h3 => ?_)
            · have h3 := b2i_1 h3
              rw [hf o (by omega)] at h3
              refine g_p 52 rfl rfl ?_
              refine g_l 54 rfl rfl ?_
              refine g_l 56 rfl rfl ?_
              refine g_if_eq rfl (by omega) (fun h4 => ?_) (fun h4 => ?_)
              · exact no _ (fun q => q.1.2 h3)
              · exact absurd rfl h4
            · have h3 := b2i_0 (by omega : b2i (I 39 o = 0) = 0)
              rw [hf o (by omega)] at h3
              refine g_p 48 rfl rfl ?_
              refine g_goto rfl ?_
              refine g_l 54 rfl rfl ?_
              refine g_l 56 rfl rfl ?_
              refine g_if_eq rfl (by omega) (fun h4 => ?_) (fun h4 => ?_)
              · exact absurd h4 (by decide)
              · refine g_l 60 rfl rfl ?_
                refine g_fr rfl rfl ⟨⟨by decide, by omega, by decide⟩, by decide⟩ rfl ?_
                refine g_l 64 rfl rfl ?_
                refine g_aa (c9 := 103) (n := 32) k rfl rfl ⟨Or.inl rfl, by omega⟩ rfl (by omega) (R40 k (by omega)) ?_
                refine g_l 67 rfl rfl ?_
                refine g_ia o rfl (S41 (by omega)) rfl (by omega) ?_
                have hne : k ≠ o := fun q => h2 (by rw [q])
                rw [hD k o hk (by omega) hne]
                refine g_l 69 rfl rfl ?_
                refine g_ic_ge rfl (by omega) (by omega) (fun h5 => ?_) (fun h5 => ?_)
                · exact no _ (fun q => absurd q.2 (by omega))
                · refine g_l 74 rfl rfl ?_
                  refine g_l 75 rfl rfl ?_
                  refine g_l 76 rfl rfl ?_
                  refine g_fr rfl rfl ⟨⟨by decide, by omega, by decide⟩, by decide⟩ rfl ?_
                  refine g_l 80 rfl rfl ?_
                  refine g_aa (c9 := 103) (n := 32) k rfl rfl ⟨Or.inl rfl, by omega⟩ rfl (by omega) (R40 k (by omega)) ?_
                  refine g_l 83 rfl rfl ?_
                  refine g_ia o rfl (S41 (by omega)) rfl (by omega) ?_
                  rw [hD k o hk (by omega) hne]
                  refine g_l 85 rfl rfl ?_
                  refine g_l 88 rfl rfl ?_
                  refine g_goto rfl ?_
                  have hyes : (o / 4 ≠ k / 4 ∧ f o ≠ 0) ∧ dif (f k) (f o) < l := ⟨⟨fun q => h2 (by omega), h3⟩, by omega⟩
                  rw [mtF, if_pos hyes]
                  exact ih (o + 1) _ _ _ (by omega) (by omega) (by omega) hfk
  show Go L (d + 1) k_X4_findMate 0 [some (vR 37), some (vI k), none, none, none, none] [] I _
  refine g_p 1 rfl rfl ?_
  refine g_l 2 rfl rfl ?_
  refine g_p 5 rfl rfl ?_
  refine g_l 6 rfl rfl ?_
  refine g_p 7 rfl rfl ?_
  refine g_l 9 rfl rfl ?_
  unfold mt
  by_cases hfk : f k = 0
  · rw [if_pos hfk]
    have hb1 := b2i_r (I 39 k = 0)
    refine g_l 11 rfl rfl ?_
    refine g_p 12 rfl rfl ?_
    refine g_l 13 rfl rfl ?_
    refine g_fi rfl rfl ⟨⟨by decide, by omega, by decide⟩, by decide⟩ ?_
    refine g_p 17 rfl rfl ?_
    rw [h0]
    refine g_ic_ge rfl (by omega) (by omega) (fun h => ?_) (fun h => ?_)
    · refine g_l 92 rfl rfl ?_
      exact g_ret rfl rfl ⟨rfl, rfl⟩
    · refine g_l 21 rfl rfl ?_
      refine g_l 22 rfl rfl ?_
      refine g_callE rfl (c_isFlat (by omega) (by rw [hf k hk, hfk]; omega)) ?_
      refine g_if_ne rfl (by omega) (fun h1 => ?_) (fun h1 => ?_)
      · refine g_l 92 rfl rfl ?_
        exact g_ret rfl rfl ⟨rfl, rfl⟩
      · have h1 := b2i_0 (by omega : b2i (I 39 k = 0) = 0)
        rw [hf k hk] at h1
        exact absurd hfk h1
  · rw [if_neg hfk]
    exact key (4 * n) 0 (-1) 1000 none (by omega) (by omega) (by omega) hfk
end SE
