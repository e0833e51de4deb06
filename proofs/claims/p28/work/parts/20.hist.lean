/-! History -/
def kst (j : Nat) : Nat := 13 + 4 * j
theorem kst_ok {j : Nat} (h : j < 6) : IsSt (kst j) := by
  unfold IsSt kst
  omega
theorem R12 : ∀ j, j < 6 → (R0.getD 12 []).getD j none = some (kst j) := by decide
def HsAt (I : zI) (hs : Nat → Nat → Int) (n : Nat) : Prop := I 11 2 = n ∧ n ≤ 6 ∧ ∃ o : Nat, o < 6 ∧ I 11 1 = o ∧ ∀ k, k < n → StAt I (kst ((o + k) % 6)) (hs k)
def hpush (hs : Nat → Nat → Int) (n : Nat) (v : Nat → Int) : Nat → Nat → Int := fun k => if n < 6 then (if k = n then v else hs k) else if k = 5 then v else hs (k + 1)
theorem StAt.fr {I J : zI} {a : Nat} {v : Nat → Int} (h : StAt I a v) (h0 : J a = I a) (h1 : J (a + 1) = I (a + 1)) (h2 : J (a + 2) = I (a + 2)) (h3 : J (a + 3) = I (a + 3)) : StAt J a v := by
  unfold StAt at h ⊢
  rw [h0, h1, h2, h3]
  exact h
theorem HsAt.fr {I J : zI} {hs : Nat → Nat → Int} {n : Nat} (h : HsAt I hs n) (hj : ∀ q, 11 ≤ q → q < 37 → J q = I q) : HsAt J hs n := by
  obtain ⟨h1, h2, o, h3, h4, h5⟩ := h
  refine ⟨by rw [hj 11 (by omega) (by omega)]; exact h1, h2, o, h3, by rw [hj 11 (by omega) (by omega)]; exact h4, fun k hk => ?_⟩
  have e : (o + k) % 6 < 6 := Nat.mod_lt _ (by omega)
  have h6 := h5 k hk
  generalize (o + k) % 6 = j at e h6
  exact h6.fr (hj _ (by unfold kst; omega) (by unfold kst; omega)) (hj _ (by unfold kst; omega) (by unfold kst; omega)) (hj _ (by unfold kst; omega) (by unfold kst; omega)) (hj _ (by unfold kst; omega) (by unfold kst; omega))
section HI
variable {L d : Nat} {I : zI} {b : Nat}
theorem c_keep {hs : Nat → Nat → Int} {n : Nat} {v : Nat → Int} (hB : b = 3 ∨ b = 7) (hH : HsAt I hs n) (hv : StAt I b v) : Ct L (d + 3) k_X1_keep [vR 11, vR b] I (fun r I' => r = none ∧ HsAt I' (hpush hs n v) (if n < 6 then n + 1 else 6) ∧ Fr 11 26 I I') := by
  have hBs : IsSt b := by unfold IsSt; omega
  obtain ⟨e1, e2, o, e3, e4, e5⟩ := hH
  show Go L (d + 3) k_X1_keep 0 [some (vR 11), some (vR b)] [] I _
  have hj : (o + n) % 6 < 6 := Nat.mod_lt _ (by omega)
  have hdec : (I 11 1 + I 11 2) % 6 = (((o + n) % 6 : Nat) : Int) := by omega
  refine g_l 1 rfl rfl ?_
  refine g_fr rfl rfl ⟨⟨by decide, by omega, by decide⟩, by decide⟩ rfl ?_
  refine g_l 5 rfl rfl ?_
  refine g_fi rfl rfl ⟨⟨by decide, by omega, by decide⟩, by decide⟩ ?_
  refine g_l 9 rfl rfl ?_
  refine g_fi rfl rfl ⟨⟨by decide, by omega, by decide⟩, by decide⟩ ?_
  refine g_p 13 rfl rfl ?_
  refine g_p 15 rfl rfl ?_
  refine g_rem 16 rfl (by omega) (by omega) ?_
  rw [hdec]
  generalize hjj : (o + n) % 6 = j at hj
  refine g_aa (c9 := 104) (n := 6) j rfl rfl ⟨Or.inr rfl, by omega⟩ rfl hj (R12 j hj) ?_
  refine g_l 18 rfl rfl ?_
  have hne : kst j ≠ b := by unfold kst; omega
  have hsk := (kst_ok hj).s (L := L)
  refine g_call rfl (c_scopy (kst_ok hj) hBs hne) (fun r J hJ => ?_) (hr := rcv hsk.1 ⟨by decide, by omega, rfl⟩)
  obtain ⟨rfl, hJ1, hJ2⟩ := hJ
  have hvJ := hJ1 v hv
  have f11 : J 11 = I 11 := hJ2 11 (by unfold kst; omega)
  have old : ∀ k, k < n → (o + k) % 6 ≠ j → StAt J (kst ((o + k) % 6)) (hs k) := fun k hk hne => by
    have h6 := e5 k hk
    have hk6 : (o + k) % 6 < 6 := Nat.mod_lt _ (by omega)
    generalize (o + k) % 6 = i at hne h6 hk6
    exact h6.fr (hJ2 _ (by unfold kst; omega)) (hJ2 _ (by unfold kst; omega)) (hJ2 _ (by unfold kst; omega)) (hJ2 _ (by unfold kst; omega))
  refine g_l 22 rfl rfl ?_
  refine g_fi rfl rfl ⟨⟨by decide, by omega, by decide⟩, by decide⟩ ?_
  refine g_p 27 rfl rfl ?_
  rw [f11]
  refine g_ic_ge rfl (by omega) (by omega) (fun h => ?_) (fun h => ?_)
  · have hn : n = 6 := by omega
    subst hn
    have hoj : j = o := by omega
    subst hoj
    refine g_l 44 rfl rfl ?_
    refine g_l 45 rfl rfl ?_
    refine g_fi rfl rfl ⟨⟨by decide, by omega, by decide⟩, by decide⟩ ?_
    refine g_p 49 rfl rfl ?_
    refine g_p 50 rfl rfl ?_
    refine g_p 52 rfl rfl ?_
    rw [f11]
    refine g_rem 53 rfl (by omega) (by omega) ?_
    refine g_wi rfl rfl ⟨⟨by decide, by omega, by decide⟩, by decide⟩ ?_
    refine g_ret rfl rfl ⟨rfl, ⟨?_, by simp, (j + 1) % 6, Nat.mod_lt _ (by omega), ?_, fun k hk => ?_⟩, fun q hq => ?_⟩
    · rw [zup2_an (by omega), f11]
      simpa using e1
    · rw [zup2_at]
      omega
    · have hk : k < 6 := by simpa using hk
      have hz : ∀ i, i < 6 → ∀ w, StAt J (kst i) w → StAt (zup2 J 11 1 ((I 11 1 + 1) % 6)) (kst i) w := fun i hi w h => h.fr (zup2_ne (by unfold kst; omega)) (zup2_ne (by unfold kst; omega)) (zup2_ne (by unfold kst; omega)) (zup2_ne (by unfold kst; omega))
      have hm : ((j + 1) % 6 + k) % 6 < 6 := Nat.mod_lt _ (by omega)
      refine hz _ hm _ ?_
      unfold hpush
      rw [if_neg (by omega)]
      by_cases hk5 : k = 5
      · subst hk5
        rw [if_pos rfl, show ((j + 1) % 6 + 5) % 6 = j by omega]
        exact hvJ
      · rw [if_neg hk5, show ((j + 1) % 6 + k) % 6 = (j + (k + 1)) % 6 by omega]
        exact old (k + 1) (by omega) (by omega)
    · rw [zup2_ne (by omega)]
      exact hJ2 q (by unfold kst; omega)
  · have hn : n < 6 := by omega
    refine g_l 31 rfl rfl ?_
    refine g_p 32 rfl rfl ?_
    refine g_fi rfl rfl ⟨⟨by decide, by omega, by decide⟩, by decide⟩ ?_
    refine g_p 36 rfl rfl ?_
    refine g_p 37 rfl rfl ?_
    refine g_wi rfl rfl ⟨⟨by decide, by omega, by decide⟩, by decide⟩ ?_
    refine g_goto rfl ?_
    rw [f11]
    refine g_ret rfl rfl ⟨rfl, ⟨?_, by rw [if_pos hn]; omega, o, e3, ?_, fun k hk => ?_⟩, fun q hq => ?_⟩
    · rw [zup2_at, if_pos hn]
      omega
    · rw [zup2_an (by omega), f11]
      exact e4
    · rw [if_pos hn] at hk
      have hz : ∀ i, i < 6 → ∀ w, StAt J (kst i) w → StAt (zup2 J 11 2 (I 11 2 + 1)) (kst i) w := fun i hi w h => h.fr (zup2_ne (by unfold kst; omega)) (zup2_ne (by unfold kst; omega)) (zup2_ne (by unfold kst; omega)) (zup2_ne (by unfold kst; omega))
      refine hz _ (Nat.mod_lt _ (by omega)) _ ?_
      unfold hpush
      rw [if_pos hn]
      by_cases hk5 : k = n
      · subst hk5
        rw [if_pos rfl, hjj]
        exact hvJ
      · rw [if_neg hk5]
        exact old k (by omega) (by omega)
    · rw [zup2_ne (by omega)]
      exact hJ2 q (by unfold kst; omega)
theorem c_restore {hs : Nat → Nat → Int} {n : Nat} (hH : HsAt I hs (n + 1)) : Ct L (d + 3) k_X1_restore [vR 11, vR 3] I (fun r I' => r = none ∧ HsAt I' hs n ∧ StAt I' 3 (hs n) ∧ ∀ q, q ≠ 11 → (q < 3 ∨ 7 ≤ q) → I' q = I q) := by
  obtain ⟨e1, e2, o, e3, e4, e5⟩ := hH
  show Go L (d + 3) k_X1_restore 0 [some (vR 11), some (vR 3)] [] I _
  have hj : (o + n) % 6 < 6 := Nat.mod_lt _ (by omega)
  refine g_l 1 rfl rfl ?_
  refine g_fi rfl rfl ⟨⟨by decide, by omega, by decide⟩, by decide⟩ ?_
  refine g_if_le rfl (by omega) (fun h => ?_) (fun h => ?_)
  · exact absurd h (by omega)
  · refine g_l 8 rfl rfl ?_
    refine g_p 9 rfl rfl ?_
    refine g_fi rfl rfl ⟨⟨by decide, by omega, by decide⟩, by decide⟩ ?_
    refine g_p 13 rfl rfl ?_
    refine g_p 14 rfl rfl ?_
    refine g_wi rfl rfl ⟨⟨by decide, by omega, by decide⟩, by decide⟩ ?_
    refine g_l 18 rfl rfl ?_
    refine g_l 19 rfl rfl ?_
    refine g_fr rfl rfl ⟨⟨by decide, by omega, by decide⟩, by decide⟩ rfl ?_
    refine g_l 23 rfl rfl ?_
    refine g_fi rfl rfl ⟨⟨by decide, by omega, by decide⟩, by decide⟩ ?_
    refine g_l 27 rfl rfl ?_
    refine g_fi rfl rfl ⟨⟨by decide, by omega, by decide⟩, by decide⟩ ?_
    refine g_p 31 rfl rfl ?_
    refine g_p 33 rfl rfl ?_
    rw [zup2_an (by omega), zup2_at]
    have hdec : (I 11 1 + (I 11 2 - 1)) % 6 = (((o + n) % 6 : Nat) : Int) := by omega
    refine g_rem 34 rfl (by omega) (by omega) ?_
    rw [hdec]
    have hv := e5 n (by omega)
    generalize (o + n) % 6 = j at hj hv
    refine g_aa (c9 := 104) (n := 6) j rfl rfl ⟨Or.inr rfl, by omega⟩ rfl hj (R12 j hj) ?_
    have hne : 3 ≠ kst j := by unfold kst; omega
    refine g_call rfl (c_scopy (by unfold IsSt; omega) (kst_ok hj) hne) (fun r J hJ => ?_)
    obtain ⟨rfl, hJ1, hJ2⟩ := hJ
    have hz : StAt (zup2 I 11 2 (I 11 2 - 1)) (kst j) (hs n) := hv.fr (zup2_ne (by unfold kst; omega)) (zup2_ne (by unfold kst; omega)) (zup2_ne (by unfold kst; omega)) (zup2_ne (by unfold kst; omega))
    refine g_ret rfl rfl ⟨rfl, ⟨?_, by omega, o, e3, ?_, fun k hk => ?_⟩, hJ1 _ hz, fun q h1 h2 => ?_⟩
    · rw [hJ2 11 (by omega), zup2_at]
      omega
    · rw [hJ2 11 (by omega), zup2_an (by omega)]
      exact e4
    · have h6 := e5 k (by omega)
      have hk6 : (o + k) % 6 < 6 := Nat.mod_lt _ (by omega)
      generalize (o + k) % 6 = i at h6 hk6
      have hq : ∀ q, 13 ≤ q → J q = I q := fun q hq => by rw [hJ2 q (by omega), zup2_ne (by omega)]
      exact h6.fr (hq _ (by unfold kst; omega)) (hq _ (by unfold kst; omega)) (hq _ (by unfold kst; omega)) (hq _ (by unfold kst; omega))
    · rw [hJ2 q (by omega), zup2_ne (by omega)]
end HI
