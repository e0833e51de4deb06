/-! Sides: flat sides, sorts, edges, costs -/
theorem zor_sh : ∀ s, s < 4 → ∀ m, m < 2 ^ s → zor ((m : Nat) : Int) (zshl 1 ((s : Nat) : Int)) = ((m + 2 ^ s : Nat) : Int) := by decide +kernel
/-- the mask of the flat sides of piece p, up to side s -/
def fmF (f : Nat → Int) (p : Nat) : Nat → Nat
  | 0 => 0
  | s + 1 => if f (4 * p + s) = 0 then fmF f p s + 2 ^ s else fmF f p s
theorem fmF_lt (f : Nat → Int) (p : Nat) : ∀ s, fmF f p s < 2 ^ s
  | 0 => by show 0 < 1; omega
  | s + 1 => by
    have h := fmF_lt f p s
    unfold fmF
    rw [Nat.pow_succ]
    split <;> omega
/-- the sort by the mask, as the class asks -/
def srF (m : Int) : Nat → Nat → Int
  | 0, _ => if m = 0 then 2 else 1
  | k + 1, s => if zand m (zor (zshl 1 s) (zshl 1 (((s : Int) + 1) % 4))) = zor (zshl 1 s) (zshl 1 (((s : Int) + 1) % 4)) then 0 else srF m k (s + 1)
theorem zand_rng : ∀ m, m < 16 → ∀ s, s < 4 → (-2147483648 ≤ zand ((m : Nat) : Int) (zor (zshl 1 ((s : Nat) : Int)) (zshl 1 ((((s : Nat) : Int) + 1) % 4))) ∧ zand ((m : Nat) : Int) (zor (zshl 1 ((s : Nat) : Int)) (zshl 1 ((((s : Nat) : Int) + 1) % 4))) ≤ 2147483647) ∧ (-2147483648 ≤ zor (zshl 1 ((s : Nat) : Int)) (zshl 1 ((((s : Nat) : Int) + 1) % 4)) ∧ zor (zshl 1 ((s : Nat) : Int)) (zshl 1 ((((s : Nat) : Int) + 1) % 4)) ≤ 2147483647) := by decide +kernel
section CS
variable {L d : Nat} {I : zI}
theorem c_flatMask {n p : Nat} {f : Nat → Int} (hn : n ≤ 8) (hp : p < n) (hf : ∀ k, k < 4 * n → I 39 k = f k) (hfr : ∀ k, 0 ≤ f k ∧ f k ≤ 255) : Ev L (d + 1) k_X4_flatMask [vR 37, vI p] I (some (vI (fmF f p 4 : Nat))) I := by
  have key : ∀ (m s : Nat), s + m = 4 → Go L (d + 1) k_X4_flatMask 4 [some (vR 37), some (vI p), some (vI (fmF f p s : Nat)), some (vI s)] [] I (fun r J => r = some (vI (fmF f p 4 : Nat)) ∧ J = I) := by
    intro m
    induction m with
    | zero =>
      intro s hs
      refine g_l 5 rfl rfl ?_
      refine g_p 6 rfl rfl ?_
      refine g_ic_ge rfl (by omega) (by omega) (fun h => ?_) (fun h => ?_)
      · refine g_l 34 rfl rfl ?_
        have e : s = 4 := by omega
        subst e
        exact g_ret rfl rfl ⟨rfl, rfl⟩
      · exact absurd h (by omega)
    | succ m ih =>
      intro s hs
      have hr := hfr (4 * p + s)
      have hb := b2i_r (I 39 (4 * p + s) = 0)
      refine g_l 5 rfl rfl ?_
      refine g_p 6 rfl rfl ?_
      refine g_ic_ge rfl (by omega) (by omega) (fun h => ?_) (fun h => ?_)
      · exact absurd h (by omega)
      · refine g_l 10 rfl rfl ?_
        refine g_p 11 rfl rfl ?_
        refine g_l 12 rfl rfl ?_
        refine g_p 13 rfl rfl ?_
        refine g_l 14 rfl rfl ?_
        refine g_p 15 rfl rfl ?_
        have e1 : (4 * (p : Int) + s) = ((4 * p + s : Nat) : Int) := by omega
        rw [e1]
        refine g_callE rfl (c_isFlat (k := 4 * p + s) (by omega) (by rw [hf _ (by omega)]; omega)) ?_
        refine g_if_eq rfl (by omega) (fun h1 => ?_) (fun h1 => ?_)
        · have h1 := b2i_0 h1
          rw [hf _ (by omega)] at h1
          refine g_l 30 rfl rfl ?_
          refine g_goto rfl ?_
          have e : fmF f p s = fmF f p (s + 1) := by rw [fmF, if_neg h1]
          rw [e]
          exact ih (s + 1) (by omega)
        · have h1 := b2i_1 h1
          rw [hf _ (by omega)] at h1
          refine g_l 22 rfl rfl ?_
          refine g_p 23 rfl rfl ?_
          refine g_l 24 rfl rfl ?_
          refine g_p 25 rfl rfl ?_
          refine g_p 26 rfl rfl ?_
          refine g_l 27 rfl rfl ?_
          refine g_l 30 rfl rfl ?_
          refine g_goto rfl ?_
          have e : fmF f p (s + 1) = fmF f p s + 2 ^ s := by rw [fmF, if_pos h1]
          have h2 := ih (s + 1) (by omega)
          rw [e, ← zor_sh s (by omega) _ (fmF_lt f p s)] at h2
          exact h2
  show Go L (d + 1) k_X4_flatMask 0 [some (vR 37), some (vI p), none, none] [] I _
  refine g_p 1 rfl rfl ?_
  refine g_l 2 rfl rfl ?_
  refine g_p 3 rfl rfl ?_
  refine g_l 4 rfl rfl ?_
  exact key 4 0 rfl
theorem c_sortOf {n p : Nat} {f : Nat → Int} (hn : n ≤ 8) (hp : p < n) (hf : ∀ k, k < 4 * n → I 39 k = f k) (hfr : ∀ k, 0 ≤ f k ∧ f k ≤ 255) : Ev L (d + 2) k_X4_sortOf [vR 37, vI p] I (some (vI (srF (fmF f p 4 : Nat) 4 0))) I := by
  have hm := fmF_lt f p 4
  have hm : fmF f p 4 < 16 := hm
  obtain ⟨M, hM⟩ : ∃ M, fmF f p 4 = M := ⟨_, rfl⟩
  rw [hM] at hm
  have key : ∀ (m s : Nat) (o4 : Option zV), s + m = 4 → Go L (d + 2) k_X4_sortOf 8 [some (vR 37), some (vI p), some (vI (M : Nat)), some (vI s), o4] [] I (fun r J => r = some (vI (srF (M : Nat) m s)) ∧ J = I) := by
    intro m
    induction m with
    | zero =>
      intro s o4 hs
      refine g_l 9 rfl rfl ?_
      refine g_p 10 rfl rfl ?_
      refine g_ic_ge rfl (by omega) (by omega) (fun h => ?_) (fun h => ?_)
      · refine g_l 44 rfl rfl ?_
        refine g_if_eq rfl (by omega) (fun h1 => ?_) (fun h1 => ?_)
        · refine g_p 52 rfl rfl ?_
          exact g_ret rfl rfl ⟨by rw [srF, if_pos h1], rfl⟩
        · refine g_p 48 rfl rfl ?_
          refine g_goto rfl ?_
          exact g_ret rfl rfl ⟨by rw [srF, if_neg h1], rfl⟩
      · exact absurd h (by omega)
    | succ m ih =>
      intro s o4 hs
      have hz := zand_rng M hm s (by omega)
      refine g_l 9 rfl rfl ?_
      refine g_p 10 rfl rfl ?_
      refine g_ic_ge rfl (by omega) (by omega) (fun h => ?_) (fun h => ?_)
      · exact absurd h (by omega)
      · refine g_p 14 rfl rfl ?_
        refine g_l 15 rfl rfl ?_
        refine g_p 16 rfl rfl ?_
        refine g_p 17 rfl rfl ?_
        refine g_l 18 rfl rfl ?_
        refine g_p 19 rfl rfl ?_
        refine g_p 20 rfl rfl ?_
        refine g_p 21 rfl rfl ?_
        refine g_rem 22 rfl (by omega) (by omega) ?_
        refine g_p 23 rfl rfl ?_
        refine g_p 24 rfl rfl ?_
        refine g_l 26 rfl rfl ?_
        refine g_l 27 rfl rfl ?_
        refine g_l 29 rfl rfl ?_
        refine g_p 30 rfl rfl ?_
        refine g_l 32 rfl rfl ?_
        refine g_ic_ne rfl hz.1 hz.2 (fun h1 => ?_) (fun h1 => ?_)
        · refine g_l 40 rfl rfl ?_
          refine g_goto rfl ?_
          rw [srF, if_neg h1]
          exact ih (s + 1) _ (by omega)
        · refine g_p 36 rfl rfl ?_
          refine g_ret rfl rfl ⟨?_, rfl⟩
          rw [srF, if_pos (Classical.not_not.mp h1)]
  show Go L (d + 2) k_X4_sortOf 0 [some (vR 37), some (vI p), none, none, none] [] I _
  refine g_l 1 rfl rfl ?_
  refine g_l 2 rfl rfl ?_
  refine g_callE rfl (c_flatMask hn hp hf hfr) ?_
  rw [hM]
  refine g_l 6 rfl rfl ?_
  refine g_p 7 rfl rfl ?_
  refine g_l 8 rfl rfl ?_
  exact key 4 0 _ rfl
/-- the different edges, from side s on -/
noncomputable def ceF (f : Nat → Int) (w : Int) : Nat → Nat → Int
  | 0, _ => 0
  | m + 1, s => (@ite Int (sbF f w s s 0) (Classical.propDecidable _) 0 1) + ceF f w m (s + 1)
theorem c_countEdges {n : Nat} {f : Nat → Int} {w : Int} (hn : n ≤ 8) (h0 : I 37 0 = n) (hf : ∀ k, k < 4 * n → I 39 k = f k) (hfr : ∀ k, 0 ≤ f k ∧ f k ≤ 255) (hw : w = 0 ∨ w = 1) : Ev L (d + 3) k_X4_countEdges [vR 37, vI w] I (some (vI (ceF f w (4 * n) 0))) I := by
  have key : ∀ (m s : Nat) (x : Int), s + m = 4 * n → Go L (d + 3) k_X4_countEdges 4 [some (vR 37), some (vI w), some (vI x), some (vI s)] [] I (fun r J => r = some (vI (x + ceF f w m s)) ∧ J = I) := by
    intro m
    induction m with
    | zero =>
      intro s x hs
      refine g_l 5 rfl rfl ?_
      refine g_p 6 rfl rfl ?_
      refine g_l 7 rfl rfl ?_
      refine g_fi rfl rfl ⟨⟨by decide, by omega, by decide⟩, by decide⟩ ?_
      refine g_p 11 rfl rfl ?_
      rw [h0]
      refine g_ic_ge rfl (by omega) (by omega) (fun h => ?_) (fun h => ?_)
      · refine g_l 33 rfl rfl ?_
        exact g_ret rfl rfl ⟨by simp [ceF], rfl⟩
      · exact absurd h (by omega)
    | succ m ih =>
      intro s x hs
      obtain ⟨b, hb, hbi, hev⟩ := c_standsBefore (L := L) (d := d) (s := s) hn (by omega) hf hfr hw
      refine g_l 5 rfl rfl ?_
      refine g_p 6 rfl rfl ?_
      refine g_l 7 rfl rfl ?_
      refine g_fi rfl rfl ⟨⟨by decide, by omega, by decide⟩, by decide⟩ ?_
      refine g_p 11 rfl rfl ?_
      rw [h0]
      refine g_ic_ge rfl (by omega) (by omega) (fun h => ?_) (fun h => ?_)
      · exact absurd h (by omega)
      · refine g_l 15 rfl rfl ?_
        refine g_l 16 rfl rfl ?_
        refine g_l 17 rfl rfl ?_
        refine g_callE rfl hev ?_
        refine g_if_ne rfl (by omega) (fun h1 => ?_) (fun h1 => ?_)
        · have h2 := hbi.mp (by omega)
          refine g_l 29 rfl rfl ?_
          refine g_goto rfl ?_
          have e : x + ceF f w (m + 1) s = x + ceF f w m (s + 1) := by
            rw [ceF, if_pos h2]
            omega
          rw [e]
          exact ih (s + 1) x (by omega)
        · have h2 : ¬ sbF f w s s 0 := fun q => absurd (hbi.mpr q) (by omega)
          refine g_l 26 rfl rfl ?_
          refine g_l 29 rfl rfl ?_
          refine g_goto rfl ?_
          have e : x + ceF f w (m + 1) s = x + 1 + ceF f w m (s + 1) := by
            rw [ceF, if_neg h2]
            omega
          rw [e]
          exact ih (s + 1) (x + 1) (by omega)
  show Go L (d + 3) k_X4_countEdges 0 [some (vR 37), some (vI w), none, none] [] I _
  refine g_p 1 rfl rfl ?_
  refine g_l 2 rfl rfl ?_
  refine g_p 3 rfl rfl ?_
  refine g_l 4 rfl rfl ?_
  have h := key (4 * n) 0 0 (by omega)
  rw [Int.zero_add] at h
  exact h
/-- the difference of the sides that touch -/
def tdf (f : Nat → Int) (v q o : Int) : Int := dif (f (sdT v q).toNat) (f (sdT o ((q + 2) % 4)).toNat)
theorem sdT_rng {v q : Int} : v - v % 4 ≤ sdT v q ∧ sdT v q ≤ v - v % 4 + 3 ∧ sdT v q / 4 = v / 4 := by
  unfold sdT
  omega
theorem c_touching {n : Nat} {f : Nat → Int} {v q o : Int} (hn : n ≤ 8) (hD : DfAt I f (4 * n)) (hv : 0 ≤ v ∧ v < 4 * n) (ho : 0 ≤ o ∧ o < 4 * n) (hq : 0 ≤ q ∧ q ≤ 3) (hvo : v / 4 ≠ o / 4) : Ev L (d + 1) k_X4_touchingDifference [vR 37, vI v, vI q, vI o] I (some (vI (tdf f v q o))) I := by
  have r1 := sdT_rng (v := v) (q := q)
  have r2 := sdT_rng (v := o) (q := (q + 2) % 4)
  show Go L (d + 1) k_X4_touchingDifference 0 [some (vR 37), some (vI v), some (vI q), some (vI o)] [] I _
  refine g_l 1 rfl rfl ?_
  refine g_fr rfl rfl ⟨⟨by decide, by omega, by decide⟩, by decide⟩ rfl ?_
  refine g_l 5 rfl rfl ?_
  refine g_l 6 rfl rfl ?_
  refine g_callE rfl (c_sideTowards (by omega) hq) ?_
  refine g_aa (c9 := 103) (n := 32) (sdT v q).toNat rfl rfl ⟨Or.inl rfl, by omega⟩ (by omega) (by omega) (R40 _ (by omega)) ?_
  refine g_l 11 rfl rfl ?_
  refine g_l 12 rfl rfl ?_
  refine g_p 13 rfl rfl ?_
  refine g_p 14 rfl rfl ?_
  refine g_p 15 rfl rfl ?_
  refine g_rem 16 rfl (by omega) (by omega) ?_
  refine g_callE rfl (c_sideTowards (v := o) (q := (q + 2) % 4) (by omega) (by omega)) ?_
  refine g_ia (sdT o ((q + 2) % 4)).toNat rfl (S41 (by omega)) (by omega) (by omega) ?_
  rw [hD _ _ (by omega) (by omega) (by omega)]
  exact g_ret rfl rfl ⟨rfl, rfl⟩
/-- what the sides from q on add -/
def adF (f c : Nat → Int) (w n p v : Int) : Nat → Nat → Int
  | 0, _ => 0
  | m + 1, q => (if nb w n p q ≠ -1 ∧ c (nb w n p q).toNat ≠ -1 then tdf f v q (c (nb w n p q).toNat) else 0) + adF f c w n p v m (q + 1)
def adC (f c : Nat → Int) (w n p v : Int) : Int := adF f c w n p v 4 0
theorem tdf_rng (f : Nat → Int) (v q o : Int) : 0 ≤ tdf f v q o ∧ tdf f v q o ≤ 12 := by
  have := difF_rng (f (sdT v q).toNat) (f (sdT o ((q + 2) % 4)).toNat) 4 0
  unfold tdf dif
  omega
theorem adF_rng (f c : Nat → Int) (w n p v : Int) : ∀ m q, 0 ≤ adF f c w n p v m q ∧ adF f c w n p v m q ≤ 12 * m
  | 0, q => by unfold adF; omega
  | m + 1, q => by
    have h := adF_rng f c w n p v m (q + 1)
    have h2 := tdf_rng f v q (c (nb w n p q).toNat)
    unfold adF
    split <;> omega
theorem c_addedCost {n a : Nat} {f : Nat → Int} {p v : Int} (hn : n ≤ 8) (hD : DfAt I f (4 * n)) (hR : IsR a) (hO : RO I a) (h8 : I a 0 * I a 1 ≤ 8) (hp : 0 ≤ p ∧ p < I a 0 * I a 1) (hv : 0 ≤ v ∧ v < 4 * n)
    (hc : ∀ j : Nat, (j : Int) < I a 0 * I a 1 → (j : Int) ≠ p → I (a + 1) j ≠ -1 → I (a + 1) j < 4 * n ∧ v / 4 ≠ I (a + 1) j / 4) : Ev L (d + 2) k_X4_addedCost [vR 37, vR a, vI p, vI v] I (some (vI (adC f (I (a + 1)) (I a 0) (I a 0 * I a 1) p v))) I := by
  obtain ⟨s1, s2, r1, ha⟩ := hR.s (L := L)
  obtain ⟨o1, o2, o3, o4, o5, o6⟩ := id hO
  have key : ∀ (m q : Nat) (x : Int) (o6 : Option zV), q + m = 4 → Go L (d + 2) k_X4_addedCost 6 [some (vR 37), some (vR a), some (vI p), some (vI v), some (vI x), some (vI q), o6] [] I (fun r J => r = some (vI (x + adF f (I (a + 1)) (I a 0) (I a 0 * I a 1) p v m q)) ∧ J = I) := by
    intro m
    induction m with
    | zero =>
      intro q x _ hq
      refine g_l 8 rfl rfl ?_
      refine g_p 9 rfl rfl ?_
      refine g_ic_ge rfl (by omega) (by omega) (fun h => ?_) (fun h => ?_)
      · refine g_l 65 rfl rfl ?_
        exact g_ret rfl rfl ⟨by simp [adF], rfl⟩
      · exact absurd h (by omega)
    | succ m ih =>
      intro q x _ hq
      have hnr := nb_rng (q := (q : Int)) o1 (p := p) (n := I a 0 * I a 1) hp w_dvd
      have hnp : nb (I a 0) (I a 0 * I a 1) p q ≠ p := by
        unfold nb
        split
        · split <;> omega
        · split
          · split <;> omega
          · split
            · split <;> omega
            · split <;> omega
      refine g_l 8 rfl rfl ?_
      refine g_p 9 rfl rfl ?_
      refine g_ic_ge rfl (by omega) (by omega) (fun h => ?_) (fun h => ?_)
      · exact absurd h (by omega)
      · refine g_l 13 rfl rfl ?_
        refine g_l 14 rfl rfl ?_
        refine g_l 16 rfl rfl ?_
        refine g_callE rfl (c_neighborOf hR hO hp ⟨by omega, by omega⟩) ?_ (hr := rcv s1 ⟨by decide, by omega, rfl⟩)
        have no : ∀ (o6 : Option zV), ¬ (nb (I a 0) (I a 0 * I a 1) p q ≠ -1 ∧ I (a + 1) (nb (I a 0) (I a 0 * I a 1) p q).toNat ≠ -1) → Go L (d + 2) k_X4_addedCost 57 [some (vR 37), some (vR a), some (vI p), some (vI v), some (vI x), some (vI q), o6] [] I (fun r J => r = some (vI (x + adF f (I (a + 1)) (I a 0) (I a 0 * I a 1) p v (m + 1) q)) ∧ J = I) := fun o6 hno => by
          refine g_l 60 rfl rfl ?_
          refine g_goto rfl ?_
          have e : x + adF f (I (a + 1)) (I a 0) (I a 0 * I a 1) p v (m + 1) q = x + adF f (I (a + 1)) (I a 0) (I a 0 * I a 1) p v m (q + 1) := by
            rw [adF, if_neg hno]
            omega
          rw [e]
          exact ih (q + 1) x _ (by omega)
        refine g_l 21 rfl rfl ?_
        refine g_l 23 rfl rfl ?_
        refine g_p 24 rfl rfl ?_
        refine g_ic_eq rfl (by omega) (by omega) (fun h1 => ?_) (fun h1 => ?_)
        · exact no _ (fun z => z.1 h1)
        · have hx := o6 (nb (I a 0) (I a 0 * I a 1) p q).toNat (by omega)
          refine g_l 28 rfl rfl ?_
          refine g_fr rfl s1 ⟨⟨by decide, by omega, by decide⟩, by decide⟩ r1 ?_
          refine g_l 33 rfl rfl ?_
          refine g_ia (nb (I a 0) (I a 0 * I a 1) p q).toNat rfl s2 (by omega) (by omega) ?_
          refine g_p 35 rfl rfl ?_
          refine g_ic_eq rfl (by omega) (by omega) (fun h2 => ?_) (fun h2 => ?_)
          · exact no _ (fun z => z.2 h2)
          · have hcc := hc (nb (I a 0) (I a 0 * I a 1) p q).toNat (by omega) (by omega) h2
            refine g_l 40 rfl rfl ?_
            refine g_l 41 rfl rfl ?_
            refine g_l 42 rfl rfl ?_
            refine g_l 44 rfl rfl ?_
            refine g_l 45 rfl rfl ?_
            refine g_fr rfl s1 ⟨⟨by decide, by omega, by decide⟩, by decide⟩ r1 ?_
            refine g_l 50 rfl rfl ?_
            refine g_ia (nb (I a 0) (I a 0 * I a 1) p q).toNat rfl s2 (by omega) (by omega) ?_
            refine g_callE rfl (c_touching hn hD hv ⟨by omega, by omega⟩ ⟨by omega, by omega⟩ hcc.2) ?_
            refine g_p 55 rfl rfl ?_
            refine g_l 57 rfl rfl ?_
            refine g_l 60 rfl rfl ?_
            refine g_goto rfl ?_
            have e : x + adF f (I (a + 1)) (I a 0) (I a 0 * I a 1) p v (m + 1) q = x + tdf f v q (I (a + 1) (nb (I a 0) (I a 0 * I a 1) p q).toNat) + adF f (I (a + 1)) (I a 0) (I a 0 * I a 1) p v m (q + 1) := by
              rw [adF, if_pos ⟨h1, h2⟩]
              omega
            rw [e]
            exact ih (q + 1) _ _ (by omega)
  show Go L (d + 2) k_X4_addedCost 0 [some (vR 37), some (vR a), some (vI p), some (vI v), none, none, none] [] I _
  refine g_p 1 rfl rfl ?_
  refine g_l 3 rfl rfl ?_
  refine g_p 4 rfl rfl ?_
  refine g_l 6 rfl rfl ?_
  have h := key 4 0 0 none rfl
  rw [Int.zero_add] at h
  exact h
/-- the sums of what each piece adds -/
def wcF (f c : Nat → Int) (w n : Int) : Nat → Nat → Int
  | 0, _ => 0
  | m + 1, p => (if c p = -1 then 0 else adC f c w n p (c p)) + wcF f c w n m (p + 1)
theorem adC_rng (f c : Nat → Int) (w n p v : Int) : 0 ≤ adC f c w n p v ∧ adC f c w n p v ≤ 48 := by
  have := adF_rng f c w n p v 4 0
  unfold adC
  omega
theorem wcF_rng (f c : Nat → Int) (w n : Int) : ∀ m p, 0 ≤ wcF f c w n m p ∧ wcF f c w n m p ≤ 48 * m
  | 0, p => by unfold wcF; omega
  | m + 1, p => by
    have h := wcF_rng f c w n m (p + 1)
    have h2 := adC_rng f c w n p (c p)
    unfold wcF
    split <;> omega
theorem c_wholeCost {n a : Nat} {f : Nat → Int} (hn : n ≤ 8) (hD : DfAt I f (4 * n)) (hR : IsR a) (hO : RO I a) (h8 : I a 0 * I a 1 ≤ 8)
    (hc : ∀ j : Nat, (j : Int) < I a 0 * I a 1 → I (a + 1) j < 4 * n) (hd : ∀ i j : Nat, (i : Int) < I a 0 * I a 1 → (j : Int) < I a 0 * I a 1 → i ≠ j → I (a + 1) i ≠ -1 → I (a + 1) j ≠ -1 → I (a + 1) i / 4 ≠ I (a + 1) j / 4) : Ev L (d + 3) k_X4_wholeCost [vR 37, vR a] I (some (vI (wcF f (I (a + 1)) (I a 0) (I a 0 * I a 1) (I a 0 * I a 1).toNat 0 / 2))) I := by
  obtain ⟨s1, s2, r1, ha⟩ := hR.s (L := L)
  have o7 := hO.pos
  obtain ⟨o1, o2, o3, o4, o5, o6⟩ := id hO
  have key : ∀ (m p : Nat) (x : Int), (p : Int) + m = I a 0 * I a 1 → 0 ≤ x → x ≤ 48 * p → Go L (d + 3) k_X4_wholeCost 4 [some (vR 37), some (vR a), some (vI x), some (vI p)] [] I (fun r J => r = some (vI ((x + wcF f (I (a + 1)) (I a 0) (I a 0 * I a 1) m p) / 2)) ∧ J = I) := by
    intro m
    induction m with
    | zero =>
      intro p x hp hx0 hx
      refine g_l 5 rfl rfl ?_
      refine g_l 6 rfl rfl ?_
      refine g_callE rfl (c_size hR) ?_ (hr := rcv s1 ⟨by decide, by omega, rfl⟩)
      refine g_ic_ge rfl (by omega) (by omega) (fun h => ?_) (fun h => ?_)
      · refine g_l 44 rfl rfl ?_
        refine g_p 45 rfl rfl ?_
        refine g_div 46 rfl (by omega) (by omega) ?_
        exact g_ret rfl rfl ⟨by simp [wcF], rfl⟩
      · exact absurd h (by omega)
    | succ m ih =>
      intro p x hp hx0 hx
      have hcp := o6 p (by omega)
      have ha2 := adC_rng f (I (a + 1)) (I a 0) (I a 0 * I a 1) p (I (a + 1) p)
      refine g_l 5 rfl rfl ?_
      refine g_l 6 rfl rfl ?_
      refine g_callE rfl (c_size hR) ?_ (hr := rcv s1 ⟨by decide, by omega, rfl⟩)
      refine g_ic_ge rfl (by omega) (by omega) (fun h => ?_) (fun h => ?_)
      · exact absurd h (by omega)
      · refine g_l 13 rfl rfl ?_
        refine g_fr rfl s1 ⟨⟨by decide, by omega, by decide⟩, by decide⟩ r1 ?_
        refine g_l 17 rfl rfl ?_
        refine g_ia p rfl s2 rfl (by omega) ?_
        refine g_p 19 rfl rfl ?_
        refine g_ic_eq rfl (by omega) (by omega) (fun h1 => ?_) (fun h1 => ?_)
        · refine g_l 40 rfl rfl ?_
          refine g_goto rfl ?_
          have e : x + wcF f (I (a + 1)) (I a 0) (I a 0 * I a 1) (m + 1) p = x + wcF f (I (a + 1)) (I a 0) (I a 0 * I a 1) m (p + 1) := by
            rw [wcF, if_pos h1]
            omega
          rw [e]
          exact ih (p + 1) x (by omega) hx0 (by omega)
        · refine g_l 23 rfl rfl ?_
          refine g_l 24 rfl rfl ?_
          refine g_l 25 rfl rfl ?_
          refine g_l 26 rfl rfl ?_
          refine g_l 27 rfl rfl ?_
          refine g_fr rfl s1 ⟨⟨by decide, by omega, by decide⟩, by decide⟩ r1 ?_
          refine g_l 31 rfl rfl ?_
          refine g_ia p rfl s2 rfl (by omega) ?_
          refine g_callE rfl (c_addedCost (p := (p : Int)) hn hD hR hO h8 ⟨by omega, by omega⟩ ⟨by omega, hc p (by omega)⟩ (fun j hj hjp hj1 => ⟨hc j hj, fun q => hd p j (by omega) hj (by omega) h1 hj1 q⟩)) ?_
          refine g_p 36 rfl rfl ?_
          refine g_l 37 rfl rfl ?_
          refine g_l 40 rfl rfl ?_
          refine g_goto rfl ?_
          have e : x + wcF f (I (a + 1)) (I a 0) (I a 0 * I a 1) (m + 1) p = x + adC f (I (a + 1)) (I a 0) (I a 0 * I a 1) p (I (a + 1) p) + wcF f (I (a + 1)) (I a 0) (I a 0 * I a 1) m (p + 1) := by
            rw [wcF, if_neg h1]
            omega
          rw [e]
          exact ih (p + 1) _ (by omega) (by omega) (by omega)
  show Go L (d + 3) k_X4_wholeCost 0 [some (vR 37), some (vR a), none, none] [] I _
  refine g_p 1 rfl rfl ?_
  refine g_l 2 rfl rfl ?_
  refine g_p 3 rfl rfl ?_
  refine g_l 4 rfl rfl ?_
  have h := key (I a 0 * I a 1).toNat 0 0 (by omega) (by omega) (by omega)
  rw [Int.zero_add] at h
  exact h
end CS
