/-! Sides: follow, counts -/
def nrm (n : Nat) (c : Nat → Int) : Nat → Int := fun p => if p < n then c p else 0
theorem nrm_at {n p : Nat} {c : Nat → Int} (h : p < n) : nrm n c p = c p := if_pos h
theorem nrm_eq {n : Nat} {c c' : Nat → Int} (h : ∀ p, p < n → c p = c' p) : nrm n c = nrm n c' := by
  funext p
  unfold nrm
  split
  · exact h p (by assumption)
  · rfl
/-- the cells of a state -/
def vcel (v : Nat → Int) : Nat → Int := nrm (v 0).toNat (fun p => v (1 + p))
def Mt (c : Nat → Int) (n : Nat) : Nat → Int := mt (ek c) (4 * n)
theorem Mt_ok (c : Nat → Int) (n : Nat) : MtOK (Mt c n) (4 * n) := fun k _ => by
  have := mt_rng (ek c) (4 * n) k
  unfold Mt
  omega
def SDat (I : zI) (n : Nat) (c : Nat → Int) : Prop := n ≤ 8 ∧ I 37 0 = n ∧ (∀ p, p < n → I 38 p = c p) ∧ (∀ k, k < 4 * n → I 39 k = ek c k) ∧ DfAt I (ek c) (4 * n) ∧ (∀ k, k < 4 * n → I 73 k = Mt c n k) ∧ ∀ p, p < n → I 74 p = gr (Mt c n) n p
def SOK (I : zI) : Prop := ∃ n c, SDat I n (nrm n c) ∧ ∀ p, p < n → rng (c p)
theorem ek_rng (c : Nat → Int) (k : Nat) : 0 ≤ ek c k ∧ ek c k ≤ 255 := eg_rng _ _
theorem SDat.fr {I J : zI} {n : Nat} {c : Nat → Int} (h : SDat I n c) (hj : ∀ q, 37 ≤ q → q < 75 → J q = I q) : SDat J n c := by
  obtain ⟨h1, h2, h3, h4, h5, h6, h7⟩ := h
  refine ⟨h1, by rw [hj 37 (by omega) (by omega)]; exact h2, fun p hp => by rw [hj 38 (by omega) (by omega)]; exact h3 p hp, fun k hk => by rw [hj 39 (by omega) (by omega)]; exact h4 k hk, fun x y hx hy hne => ?_, fun k hk => by rw [hj 73 (by omega) (by omega)]; exact h6 k hk, fun p hp => by rw [hj 74 (by omega) (by omega)]; exact h7 p hp⟩
  rw [hj (41 + x) (by omega) (by omega)]
  exact h5 x y hx hy hne
section SF
variable {L d : Nat} {I : zI}
theorem c_isUpToDate {n : Nat} {c v : Nat → Int} (hn : n ≤ 8) (h0 : I 37 0 = n) (hc : ∀ p, p < n → I 38 p = c p) (hcr : ∀ p, p < n → rng (c p)) (hv : StAt I 3 v) (ho : OKv v) : ∃ b : Int, (b = 0 ∨ b = 1) ∧ (b = 1 ↔ (n : Int) = v 0 ∧ ∀ p, p < n → c p = v (1 + p)) ∧ Ev L d k_X4_isUpToDate [vR 37, vR 3] I (some (vI b)) I := by
  obtain ⟨h1, h2, -⟩ := id hv
  obtain ⟨o1, o2, -⟩ := id ho
  by_cases hnv : (n : Int) = v 0
  · have key : ∀ (m p : Nat), p + m = n → ∃ b : Int, (b = 0 ∨ b = 1) ∧ (b = 1 ↔ ∀ q, p ≤ q → q < n → c q = v (1 + q)) ∧ Go L d k_X4_isUpToDate 15 [some (vR 37), some (vR 3), some (vI p)] [] I (fun r J => r = some (vI b) ∧ J = I) := by
      intro m
      induction m with
      | zero =>
        intro p hp
        refine ⟨1, Or.inr rfl, ⟨fun _ q h3 h4 => by omega, fun _ => rfl⟩, ?_⟩
        refine g_l 16 rfl rfl ?_
        refine g_l 17 rfl rfl ?_
        refine g_fi rfl rfl ⟨⟨by decide, by omega, by decide⟩, by decide⟩ ?_
        rw [h0]
        refine g_ic_ge rfl (by omega) (by omega) (fun h => ?_) (fun h => ?_)
        · refine g_p 47 rfl rfl ?_
          exact g_retb rfl rfl (Or.inr rfl) ⟨rfl, rfl⟩
        · exact absurd h (by omega)
      | succ m ih =>
        intro p hp
        have r1 := hcr p (by omega)
        have r2 := o2 p (by omega)
        by_cases he : c p = v (1 + p)
        · obtain ⟨b, hb, hbi, hgo⟩ := ih (p + 1) (by omega)
          refine ⟨b, hb, ?_, ?_⟩
          · rw [hbi]
            constructor
            · intro h3 q h4 h5
              by_cases h6 : q = p
              · rw [h6]; exact he
              · exact h3 q (by omega) h5
            · intro h3 q h4 h5
              exact h3 q (by omega) h5
          · refine g_l 16 rfl rfl ?_
            refine g_l 17 rfl rfl ?_
            refine g_fi rfl rfl ⟨⟨by decide, by omega, by decide⟩, by decide⟩ ?_
            rw [h0]
            refine g_ic_ge rfl (by omega) (by omega) (fun h => ?_) (fun h => ?_)
            · exact absurd h (by omega)
            · refine g_l 24 rfl rfl ?_
              refine g_fr rfl rfl ⟨⟨by decide, by omega, by decide⟩, by decide⟩ rfl ?_
              refine g_l 28 rfl rfl ?_
              refine g_ia p rfl rfl rfl (by omega) ?_
              refine g_l 30 rfl rfl ?_
              refine g_fr rfl rfl ⟨⟨by decide, by omega, by decide⟩, by decide⟩ rfl ?_
              refine g_l 34 rfl rfl ?_
              refine g_ia p rfl rfl rfl (by omega) ?_
              rw [hc p (by omega), show I 4 p = v (1 + p) from h2 p (by omega)]
              refine g_ic_eq rfl (by omega) (by omega) (fun h3 => ?_) (fun h3 => ?_)
              · refine g_l 43 rfl rfl ?_
                refine g_goto rfl ?_
                exact hgo
              · exact absurd he h3
        · refine ⟨0, Or.inl rfl, ⟨fun h => absurd h (by decide), fun h => absurd (h p (Nat.le_refl _) (by omega)) he⟩, ?_⟩
          refine g_l 16 rfl rfl ?_
          refine g_l 17 rfl rfl ?_
          refine g_fi rfl rfl ⟨⟨by decide, by omega, by decide⟩, by decide⟩ ?_
          rw [h0]
          refine g_ic_ge rfl (by omega) (by omega) (fun h => ?_) (fun h => ?_)
          · exact absurd h (by omega)
          · refine g_l 24 rfl rfl ?_
            refine g_fr rfl rfl ⟨⟨by decide, by omega, by decide⟩, by decide⟩ rfl ?_
            refine g_l 28 rfl rfl ?_
            refine g_ia p rfl rfl rfl (by omega) ?_
            refine g_l 30 rfl rfl ?_
            refine g_fr rfl rfl ⟨⟨by decide, by omega, by decide⟩, by decide⟩ rfl ?_
            refine g_l 34 rfl rfl ?_
            refine g_ia p rfl rfl rfl (by omega) ?_
            rw [hc p (by omega), show I 4 p = v (1 + p) from h2 p (by omega)]
            refine g_ic_eq rfl (by omega) (by omega) (fun h3 => ?_) (fun h3 => ?_)
            · exact absurd h3 he
            · refine g_p 39 rfl rfl ?_
              exact g_retb rfl rfl (Or.inl rfl) ⟨rfl, rfl⟩
    obtain ⟨b, hb, hbi, hgo⟩ := key n 0 (by omega)
    refine ⟨b, hb, ?_, ?_⟩
    · rw [hbi]
      exact ⟨fun h => ⟨hnv, fun p hp => h p (Nat.zero_le _) hp⟩, fun h p _ hp => h.2 p hp⟩
    · show Go L d k_X4_isUpToDate 0 [some (vR 37), some (vR 3), none] [] I _
      refine g_l 1 rfl rfl ?_
      refine g_fi rfl rfl ⟨⟨by decide, by omega, by decide⟩, by decide⟩ ?_
      refine g_l 5 rfl rfl ?_
      refine g_fi rfl rfl ⟨⟨by decide, by omega, by decide⟩, by decide⟩ ?_
      rw [h0, h1]
      refine g_ic_eq rfl (by omega) (by omega) (fun h => ?_) (fun h => ?_)
      · refine g_p 14 rfl rfl ?_
        refine g_l 15 rfl rfl ?_
        exact hgo
      · exact absurd hnv h
  · refine ⟨0, Or.inl rfl, ⟨fun h => absurd h (by decide), fun h => absurd h.1 hnv⟩, ?_⟩
    show Go L d k_X4_isUpToDate 0 [some (vR 37), some (vR 3), none] [] I _
    refine g_l 1 rfl rfl ?_
    refine g_fi rfl rfl ⟨⟨by decide, by omega, by decide⟩, by decide⟩ ?_
    refine g_l 5 rfl rfl ?_
    refine g_fi rfl rfl ⟨⟨by decide, by omega, by decide⟩, by decide⟩ ?_
    rw [h0, h1]
    refine g_ic_eq rfl (by omega) (by omega) (fun h => ?_) (fun h => ?_)
    · exact absurd h hnv
    · refine g_p 12 rfl rfl ?_
      exact g_retb rfl rfl (Or.inl rfl) ⟨rfl, rfl⟩
/-- behind follow, all is of the state's pieces -/
theorem c_follow {v : Nat → Int} (hS : SOK I) (hv : StAt I 3 v) (ho : OKv v) (hr : ∀ j, j < 16 → I 0 j = rimI j) : Ct L (d + 3) k_X4_follow [vR 37, vR 3] I (fun r J => r = none ∧ SDat J (v 0).toNat (vcel v) ∧ ∀ q, (q < 37 ∨ 75 ≤ q) → J q = I q) := by
  obtain ⟨n, c, hD, hcr⟩ := hS
  obtain ⟨d1, d2, d3, d4, d5, d6, d7⟩ := id hD
  obtain ⟨h1, h2, -⟩ := id hv
  obtain ⟨o1, o2, -⟩ := id ho
  obtain ⟨b, hb, hbi, hup⟩ := c_isUpToDate (L := L) (d := d + 2) (c := c) d1 d2 (fun p hp => by rw [d3 p hp, nrm_at hp]) hcr hv ho
  show Go L (d + 3) k_X4_follow 0 [some (vR 37), some (vR 3), none] [] I _
  refine g_l 1 rfl rfl ?_
  refine g_l 2 rfl rfl ?_
  refine g_callE rfl hup ?_
  refine g_if_eq rfl (by omega) (fun h => ?_) (fun h => ?_)
  · obtain ⟨m, hm⟩ : ∃ m : Nat, (v 0).toNat = m := ⟨_, rfl⟩
    have hm8 : m ≤ 8 := by omega
    have hvm : v 0 = m := by omega
    have hvc : vcel v = nrm m (fun p => v (1 + p)) := by unfold vcel; rw [hm]
    refine g_l 10 rfl rfl ?_
    refine g_l 11 rfl rfl ?_
    refine g_fi rfl rfl ⟨⟨by decide, by omega, by decide⟩, by decide⟩ ?_
    refine g_wi rfl rfl ⟨⟨by decide, by omega, by decide⟩, by decide⟩ ?_
    refine g_l 18 rfl rfl ?_
    refine g_fr rfl rfl ⟨⟨by decide, by omega, by decide⟩, by decide⟩ rfl ?_
    refine g_p 22 rfl rfl ?_
    refine g_l 23 rfl rfl ?_
    refine g_fr rfl rfl ⟨⟨by decide, by omega, by decide⟩, by decide⟩ rfl ?_
    refine g_p 27 rfl rfl ?_
    refine g_p 29 rfl rfl ?_
    refine g_cpy (n := 8) rfl (na := 8) (nb := 8) rfl rfl ⟨by omega, by omega⟩ ⟨by omega, by omega⟩ (by decide) ?_
    rw [h1, hvm]
    have a0 : cpN (zup2 I 37 0 (m : Int)) 4 38 8 37 0 = (m : Int) := by rw [cpN_ne (by omega), zup2_at]
    have a1 : ∀ p, p < m → cpN (zup2 I 37 0 (m : Int)) 4 38 8 38 p = vcel v p := fun p hp => by
      rw [cpN_at (by omega), zup2_ne (by omega), hvc, nrm_at hp]
      exact h2 p (by omega)
    have a2 : ∀ q, q ≠ 37 → q ≠ 38 → cpN (zup2 I 37 0 (m : Int)) 4 38 8 q = I q := fun q g1 g2 => by rw [cpN_ne g2, zup2_ne g1]
    generalize cpN (zup2 I 37 0 (m : Int)) 4 38 8 = J at a0 a1 a2
    refine g_l 33 rfl rfl ?_
    refine g_callE rfl (c_readColors hm8 a0 a1 (fun j hj => by rw [a2 0 (by omega) (by omega)]; exact hr j hj)) ?_
    have b0 : wrN J 39 (fun k => eg (vcel v (k / 4)) (k % 4)) (4 * m) 37 0 = (m : Int) := by rw [wrN_ne (by omega)]; exact a0
    have b1 : ∀ p, p < m → wrN J 39 (fun k => eg (vcel v (k / 4)) (k % 4)) (4 * m) 38 p = vcel v p := fun p hp => by rw [wrN_ne (by omega)]; exact a1 p hp
    have b2 : ∀ k, k < 4 * m → wrN J 39 (fun k => eg (vcel v (k / 4)) (k % 4)) (4 * m) 39 k = ek (vcel v) k := fun k hk => wrN_at hk
    have b3 : ∀ q, (q < 37 ∨ 75 ≤ q) → wrN J 39 (fun k => eg (vcel v (k / 4)) (k % 4)) (4 * m) q = I q := fun q hq => by rw [wrN_ne (by omega)]; exact a2 q (by omega) (by omega)
    generalize wrN J 39 (fun k => eg (vcel v (k / 4)) (k % 4)) (4 * m) = J2 at b0 b1 b2 b3
    refine g_l 37 rfl rfl ?_
    refine g_call rfl (c_compareSides hm8 b0 b2) (fun r J3 hJ3 => ?_)
    obtain ⟨rfl, c1, c2⟩ := hJ3
    refine g_p 41 rfl rfl ?_
    refine g_l 42 rfl rfl ?_
    have loop : ∀ (i k : Nat), k + i = 4 * m → Go L (d + 3) k_X4_follow 42 [some (vR 37), some (vR 3), some (vI k)] [] (wrN J3 73 (Mt (vcel v) m) k) (fun r J => r = none ∧ SDat J m (vcel v) ∧ ∀ q, (q < 37 ∨ 75 ≤ q) → J q = I q) := by
      intro i
      induction i with
      | zero =>
        intro k hk
        refine g_l 43 rfl rfl ?_
        refine g_p 44 rfl rfl ?_
        refine g_l 45 rfl rfl ?_
        refine g_fi rfl rfl ⟨⟨by decide, by omega, by decide⟩, by decide⟩ ?_
        refine g_p 49 rfl rfl ?_
        rw [wrN_ne (by omega), c2 37 (by omega), b0]
        have ek : k = 4 * m := by omega
        subst ek
        refine g_ic_ge rfl (by omega) (by omega) (fun g => ?_) (fun g => ?_)
        · refine g_l 70 rfl rfl ?_
          refine g_call rfl (c_joinGroups (M := Mt (vcel v) m) hm8 (by rw [wrN_ne (by omega), c2 37 (by omega)]; exact b0) (fun k hk => wrN_at hk) (Mt_ok _ _)) (fun r J4 hJ4 => ?_)
          obtain ⟨rfl, e1, e2⟩ := hJ4
          refine g_ret rfl rfl ⟨rfl, ⟨hm8, ?_, fun p hp => ?_, fun k hk => ?_, fun x y hx hy hne => ?_, fun k hk => ?_, fun p hp => e1 p hp⟩, fun q hq => ?_⟩
          · rw [e2 37 (by omega), wrN_ne (by omega), c2 37 (by omega)]; exact b0
          · rw [e2 38 (by omega), wrN_ne (by omega), c2 38 (by omega)]; exact b1 p hp
          · rw [e2 39 (by omega), wrN_ne (by omega), c2 39 (by omega)]; exact b2 k hk
          · rw [e2 (41 + x) (by omega), wrN_ne (by omega)]; exact c1 x y hx hy hne
          · rw [e2 73 (by omega)]; exact wrN_at hk
          · rw [e2 q (by omega), wrN_ne (by omega), c2 q (by omega)]; exact b3 q hq
        · exact absurd g (by omega)
      | succ i ih =>
        intro k hk
        refine g_l 43 rfl rfl ?_
        refine g_p 44 rfl rfl ?_
        refine g_l 45 rfl rfl ?_
        refine g_fi rfl rfl ⟨⟨by decide, by omega, by decide⟩, by decide⟩ ?_
        refine g_p 49 rfl rfl ?_
        rw [wrN_ne (by omega), c2 37 (by omega), b0]
        refine g_ic_ge rfl (by omega) (by omega) (fun g => ?_) (fun g => ?_)
        · exact absurd g (by omega)
        · refine g_l 53 rfl rfl ?_
          refine g_fr rfl rfl ⟨⟨by decide, by omega, by decide⟩, by decide⟩ rfl ?_
          refine g_l 57 rfl rfl ?_
          refine g_l 58 rfl rfl ?_
          refine g_l 59 rfl rfl ?_
          refine g_callE rfl (c_findMate (f := ek (vcel v)) hm8 (show k < 4 * m by omega) (by rw [wrN_ne (by omega), c2 37 (by omega)]; exact b0) (fun k hk => by rw [wrN_ne (by omega), c2 39 (by omega)]; exact b2 k hk) (fun k => ek_rng _ k) (fun x y hx hy hne => by rw [wrN_ne (by omega)]; exact c1 x y hx hy hne)) ?_
          refine g_ias k rfl rfl (by omega) rfl (by omega) ?_
          rw [wrN_s (f := Mt (vcel v) m) (x := mt (ek (vcel v)) (4 * m) k) rfl]
          refine g_l 66 rfl rfl ?_
          refine g_goto rfl ?_
          exact ih (k + 1) (by omega)
    have hl := loop (4 * m) 0 (by omega)
    rw [wrN_0] at hl
    exact hl
  · have hup1 := hbi.mp (by omega)
    refine g_ret rfl rfl ⟨rfl, ?_, fun _ _ => rfl⟩
    have e : (v 0).toNat = n := by omega
    have e2 : vcel v = nrm n c := by
      unfold vcel
      rw [e]
      exact nrm_eq (fun p hp => (hup1.2 p hp).symm)
    rw [e, e2]
    exact hD
end SF
