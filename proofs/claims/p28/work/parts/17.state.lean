/-! canGrowAt, removePiece; State; History -/
theorem w_dvd {w h : Int} : (w * h) % w = 0 := Int.mul_emod_right w h
section RD
variable {L d : Nat} {I : zI} {a : Nat}
theorem c_canGrowAt {p : Nat} (hR : IsR a) (hO : RO I a) (h8 : I a 0 * I a 1 ≤ 8) (hp : (p : Int) < I a 0 * I a 1) : ∃ b : Int, (b = 0 ∨ b = 1) ∧ (b = 1 ↔ I (a + 1) p = -1 ∧ (bsF (I (a + 1)) (I a 0) (I a 0 * I a 1) p 4 0 ∨ cn (I (a + 1)) (I a 0 * I a 1) = 0)) ∧ Ev L (d + 2) k_X3_canGrowAt [vR a, vI p] I (some (vI b)) I := by
  obtain ⟨s1, s2, r1, ha⟩ := hR.s (L := L)
  have o7 := hO.pos
  obtain ⟨o1, o2, o3, o4, o5, o6⟩ := id hO
  have hcp := o6 p (by omega)
  have hcn := cnF_rng (I (a + 1)) (I a 0 * I a 1).toNat 0
  have hcn : 0 ≤ cn (I (a + 1)) (I a 0 * I a 1) ∧ cn (I (a + 1)) (I a 0 * I a 1) ≤ 8 := by unfold cn; omega
  have key : ∀ (m q : Nat) (o3 : Option zV), q + m = 4 → ∃ b : Int, (b = 0 ∨ b = 1) ∧ (b = 1 ↔ (bsF (I (a + 1)) (I a 0) (I a 0 * I a 1) p m q ∨ cn (I (a + 1)) (I a 0 * I a 1) = 0)) ∧ ∀ o3 : Option zV, Go L (d + 2) k_X3_canGrowAt 14 [some (vR a), some (vI p), some (vI q), o3] [] I (fun r I' => r = some (vI b) ∧ I' = I) := by
    intro m
    induction m with
    | zero =>
      intro q _ hq
      refine ⟨b2i (cn (I (a + 1)) (I a 0 * I a 1) = 0), ?_, ?_, fun o3 => ?_⟩
      · have := b2i_r (cn (I (a + 1)) (I a 0 * I a 1) = 0)
        omega
      · unfold b2i bsF
        split <;> simp_all
      · refine g_l 15 rfl rfl ?_
        refine g_p 16 rfl rfl ?_
        refine g_ic_ge rfl (by omega) (by omega) (fun h => ?_) (fun h => ?_)
        · refine g_l 50 rfl rfl ?_
          refine g_callE rfl (c_countPieces hR hO h8) ?_ (hr := rcv s1 ⟨by decide, by omega, rfl⟩)
          refine g_if_ne rfl (by omega) (fun h1 => ?_) (fun h1 => ?_)
          · refine g_p 61 rfl rfl ?_
            exact g_retb rfl rfl (Or.inl rfl) ⟨by rw [← b2i_f h1], rfl⟩
          · refine g_p 57 rfl rfl ?_
            refine g_goto rfl ?_
            exact g_retb rfl rfl (Or.inr rfl) ⟨by rw [← b2i_t (by omega)], rfl⟩
        · exact absurd h (by omega)
    | succ m ih =>
      intro q _ hq
      have hn := nb_rng (q := (q : Int)) o1 (p := (p : Int)) (n := I a 0 * I a 1) ⟨by omega, hp⟩ w_dvd
      have hb1 : nb (I a 0) (I a 0 * I a 1) p q ≠ -1 → -1 ≤ I (a + 1) (nb (I a 0) (I a 0 * I a 1) p q).toNat ∧ I (a + 1) (nb (I a 0) (I a 0 * I a 1) p q).toNat ≤ 31 := fun h => o6 _ (by omega)
      obtain ⟨b, hb, hbi, hgo⟩ := ih (q + 1) none (by omega)
      by_cases hyes : nb (I a 0) (I a 0 * I a 1) p q ≠ -1 ∧ I (a + 1) (nb (I a 0) (I a 0 * I a 1) p q).toNat ≠ -1
      · refine ⟨1, Or.inr rfl, ⟨fun _ => Or.inl (Or.inl hyes), fun _ => rfl⟩, fun o3 => ?_⟩
        refine g_l 15 rfl rfl ?_
        refine g_p 16 rfl rfl ?_
        refine g_ic_ge rfl (by omega) (by omega) (fun h => ?_) (fun h => ?_)
        · exact absurd h (by omega)
        · refine g_l 20 rfl rfl ?_
          refine g_l 21 rfl rfl ?_
          refine g_l 22 rfl rfl ?_
          refine g_callE rfl (c_neighborOf hR hO ⟨by omega, hp⟩ ⟨by omega, by omega⟩) ?_ (hr := rcv s1 ⟨by decide, by omega, rfl⟩)
          have hb2 := hb1 hyes.1
          refine g_l 26 rfl rfl ?_
          refine g_l 27 rfl rfl ?_
          refine g_p 28 rfl rfl ?_
          refine g_ic_eq rfl (by omega) (by omega) (fun h1 => ?_) (fun h1 => ?_)
          · exact absurd h1 hyes.1
          · refine g_l 32 rfl rfl ?_
            refine g_fr rfl s1 ⟨⟨by decide, by omega, by decide⟩, by decide⟩ r1 ?_
            refine g_l 36 rfl rfl ?_
            refine g_ia (nb (I a 0) (I a 0 * I a 1) p q).toNat rfl s2 (by omega) (by omega) ?_
            refine g_p 38 rfl rfl ?_
            refine g_ic_eq rfl (by omega) (by omega) (fun h2 => ?_) (fun h2 => ?_)
            · exact absurd h2 hyes.2
            · refine g_p 42 rfl rfl ?_
              exact g_retb rfl rfl (Or.inr rfl) ⟨rfl, rfl⟩
      · refine ⟨b, hb, ?_, fun o3 => ?_⟩
        · rw [hbi]
          show _ ↔ ((nb _ _ _ _ ≠ -1 ∧ _) ∨ bsF _ _ _ _ m (q + 1)) ∨ _
          constructor
          · rintro (h | h)
            · exact Or.inl (Or.inr h)
            · exact Or.inr h
          · rintro ((h | h) | h)
            · exact absurd h hyes
            · exact Or.inl h
            · exact Or.inr h
        · refine g_l 15 rfl rfl ?_
          refine g_p 16 rfl rfl ?_
          refine g_ic_ge rfl (by omega) (by omega) (fun h => ?_) (fun h => ?_)
          · exact absurd h (by omega)
          · refine g_l 20 rfl rfl ?_
            refine g_l 21 rfl rfl ?_
            refine g_l 22 rfl rfl ?_
            refine g_callE rfl (c_neighborOf hR hO ⟨by omega, hp⟩ ⟨by omega, by omega⟩) ?_ (hr := rcv s1 ⟨by decide, by omega, rfl⟩)
            refine g_l 26 rfl rfl ?_
            refine g_l 27 rfl rfl ?_
            refine g_p 28 rfl rfl ?_
            refine g_ic_eq rfl (by omega) (by omega) (fun h1 => ?_) (fun h1 => ?_)
            · refine g_l 46 rfl rfl ?_
              refine g_goto rfl ?_
              exact hgo _
            · have hb2 := hb1 h1
              refine g_l 32 rfl rfl ?_
              refine g_fr rfl s1 ⟨⟨by decide, by omega, by decide⟩, by decide⟩ r1 ?_
              refine g_l 36 rfl rfl ?_
              refine g_ia (nb (I a 0) (I a 0 * I a 1) p q).toNat rfl s2 (by omega) (by omega) ?_
              refine g_p 38 rfl rfl ?_
              refine g_ic_eq rfl (by omega) (by omega) (fun h2 => ?_) (fun h2 => ?_)
              · refine g_l 46 rfl rfl ?_
                refine g_goto rfl ?_
                exact hgo _
              · exact absurd ⟨h1, h2⟩ hyes
  by_cases hc : I (a + 1) p = -1
  · obtain ⟨b, hb, hbi, hgo⟩ := key 4 0 none rfl
    refine ⟨b, hb, ?_, ?_⟩
    · rw [hbi]
      exact ⟨fun h => ⟨hc, h⟩, fun h => h.2⟩
    · show Go L (d + 2) k_X3_canGrowAt 0 [some (vR a), some (vI p), none, none] [] I _
      refine g_l 1 rfl rfl ?_
      refine g_fr rfl s1 ⟨⟨by decide, by omega, by decide⟩, by decide⟩ r1 ?_
      refine g_l 5 rfl rfl ?_
      refine g_ia p rfl s2 rfl (by omega) ?_
      refine g_p 7 rfl rfl ?_
      refine g_ic_eq rfl (by omega) (by omega) (fun h => ?_) (fun h => ?_)
      · refine g_p 13 rfl rfl ?_
        refine g_l 14 rfl rfl ?_
        exact hgo _
      · exact absurd hc h
  · refine ⟨0, Or.inl rfl, ⟨fun h => absurd h (by decide), fun h => absurd h.1 hc⟩, ?_⟩
    show Go L (d + 2) k_X3_canGrowAt 0 [some (vR a), some (vI p), none, none] [] I _
    refine g_l 1 rfl rfl ?_
    refine g_fr rfl s1 ⟨⟨by decide, by omega, by decide⟩, by decide⟩ r1 ?_
    refine g_l 5 rfl rfl ?_
    refine g_ia p rfl s2 rfl (by omega) ?_
    refine g_p 7 rfl rfl ?_
    refine g_ic_eq rfl (by omega) (by omega) (fun h => ?_) (fun h => ?_)
    · exact absurd h hc
    · refine g_p 11 rfl rfl ?_
      exact g_retb rfl rfl (Or.inl rfl) ⟨rfl, rfl⟩
/-- a content behind the drop of piece k -/
def rmv (k x : Int) : Int := if x ≠ -1 ∧ x / 4 = k then -1 else if x ≠ -1 ∧ k < x / 4 then x - 4 else x
def rmN (I : zI) (b : Nat) (k : Int) (m : Nat) : zI := fun q => if q = b then (fun j => if j < m then rmv k (I b j) else I b j) else I q
theorem rmN_0 (I : zI) (b : Nat) (k : Int) : rmN I b k 0 = I := by
  funext q j
  unfold rmN
  split
  · rename_i h
    subst h
    simp
  · rfl
theorem rmN_s (I : zI) (b m : Nat) (k : Int) {x : Int} (hx : x = rmv k (I b m)) : zup2 (rmN I b k m) b m x = rmN I b k (m + 1) := by
  subst hx
  funext q j
  unfold zup2 rmN zup
  by_cases h : q = b
  · subst h
    by_cases h2 : j = m
    · subst h2
      simp
    · have e : (j < m + 1) = (j < m) := by
        apply propext
        omega
      simp [h2, e]
  · simp [h]
theorem rmN_k (I : zI) (b m : Nat) (k : Int) (hx : I b m = rmv k (I b m)) : rmN I b k m = rmN I b k (m + 1) := by
  rw [← rmN_s I b m k hx]
  funext q j
  unfold zup2 rmN zup
  by_cases h : q = b
  · subst h
    by_cases h2 : j = m
    · subst h2
      simp
    · simp [h2]
  · simp [h]
theorem rmN_ne {I : zI} {b q m : Nat} {k : Int} (h : q ≠ b) : rmN I b k m q = I q := if_neg h
theorem rmN_at {I : zI} {b m : Nat} {k : Int} : rmN I b k m b m = I b m := by
  unfold rmN
  simp
theorem c_removePiece {k : Int} (hR : IsR a) (hO : RO I a) (h8 : I a 0 * I a 1 ≤ 8) (hk : rng k) : Ev L (d + 1) k_X3_removePiece [vR a, vI k] I none (rmN I (a + 1) k (I a 0 * I a 1).toNat) := by
  obtain ⟨s1, s2, r1, ha⟩ := hR.s (L := L)
  have o7 := hO.pos
  have o6 := hO.2.2.2.2.2
  have key : ∀ (m p : Nat), (p : Int) + m = I a 0 * I a 1 → Go L (d + 1) k_X3_removePiece 2 [some (vR a), some (vI k), some (vI p)] [] (rmN I (a + 1) k p) (fun r I' => r = none ∧ I' = rmN I (a + 1) k (I a 0 * I a 1).toNat) := by
    intro m
    induction m with
    | zero =>
      intro p hp
      refine g_l 3 rfl rfl ?_
      refine g_l 4 rfl rfl ?_
      refine g_callE rfl (c_size hR) ?_ (hr := rcv s1 ⟨by decide, by omega, rfl⟩)
      rw [rmN_ne (show a ≠ a + 1 by omega)]
      refine g_ic_ge rfl (by omega) (by omega) (fun h => ?_) (fun h => ?_)
      · have e : p = (I a 0 * I a 1).toNat := by omega
        subst e
        exact g_ret rfl rfl ⟨rfl, rfl⟩
      · exact absurd h (by omega)
    | succ m ih =>
      intro p hp
      refine g_l 3 rfl rfl ?_
      refine g_l 4 rfl rfl ?_
      refine g_callE rfl (c_size hR) ?_ (hr := rcv s1 ⟨by decide, by omega, rfl⟩)
      rw [rmN_ne (show a ≠ a + 1 by omega)]
      have hc := o6 p (by omega)
      refine g_ic_ge rfl (by omega) (by omega) (fun h => ?_) (fun h => ?_)
      · exact absurd h (by omega)
      · refine g_l 11 rfl rfl ?_
        refine g_fr rfl s1 ⟨⟨by decide, by omega, by decide⟩, by decide⟩ r1 ?_
        refine g_l 15 rfl rfl ?_
        refine g_ia p rfl s2 rfl (by omega) ?_
        rw [rmN_at]
        refine g_p 17 rfl rfl ?_
        refine g_ic_eq rfl (by omega) (by omega) (fun h1 => ?_) (fun h1 => ?_)
        · refine g_l 43 rfl rfl ?_
          refine g_fr rfl s1 ⟨⟨by decide, by omega, by decide⟩, by decide⟩ r1 ?_
          refine g_l 47 rfl rfl ?_
          refine g_ia p rfl s2 rfl (by omega) ?_
          rw [rmN_at]
          refine g_p 49 rfl rfl ?_
          refine g_ic_eq rfl (by omega) (by omega) (fun h2 => ?_) (fun h2 => ?_)
          · rw [rmN_k I (a + 1) p k (by simp [rmv, h1])]
            refine g_l 77 rfl rfl ?_
            refine g_goto rfl ?_
            exact ih (p + 1) (by omega)
          · exact absurd h1 h2
        · refine g_l 21 rfl rfl ?_
          refine g_fr rfl s1 ⟨⟨by decide, by omega, by decide⟩, by decide⟩ r1 ?_
          refine g_l 25 rfl rfl ?_
          refine g_ia p rfl s2 rfl (by omega) ?_
          rw [rmN_at]
          refine g_p 27 rfl rfl ?_
          refine g_div 28 rfl (by omega) (by omega) ?_
          refine g_l 29 rfl rfl ?_
          refine g_ic_ne rfl (by omega) (by omega) (fun h2 => ?_) (fun h2 => ?_)
          · refine g_l 43 rfl rfl ?_
            refine g_fr rfl s1 ⟨⟨by decide, by omega, by decide⟩, by decide⟩ r1 ?_
            refine g_l 47 rfl rfl ?_
            refine g_ia p rfl s2 rfl (by omega) ?_
            rw [rmN_at]
            refine g_p 49 rfl rfl ?_
            refine g_ic_eq rfl (by omega) (by omega) (fun h3 => ?_) (fun h3 => ?_)
            · exact absurd h3 h1
            · refine g_l 53 rfl rfl ?_
              refine g_fr rfl s1 ⟨⟨by decide, by omega, by decide⟩, by decide⟩ r1 ?_
              refine g_l 57 rfl rfl ?_
              refine g_ia p rfl s2 rfl (by omega) ?_
              rw [rmN_at]
              refine g_p 59 rfl rfl ?_
              refine g_div 60 rfl (by omega) (by omega) ?_
              refine g_l 61 rfl rfl ?_
              refine g_ic_le rfl (by omega) (by omega) (fun h4 => ?_) (fun h4 => ?_)
              · rw [rmN_k I (a + 1) p k (by simp [rmv, h1, h2, show ¬ k < I (a + 1) p / 4 by omega])]
                refine g_l 77 rfl rfl ?_
                refine g_goto rfl ?_
                exact ih (p + 1) (by omega)
              · refine g_l 65 rfl rfl ?_
                refine g_fr rfl s1 ⟨⟨by decide, by omega, by decide⟩, by decide⟩ r1 ?_
                refine g_l 69 rfl rfl ?_
                refine g_p 70 rfl rfl ?_
                refine g_ia p rfl s2 rfl (by omega) ?_
                rw [rmN_at]
                refine g_p 72 rfl rfl ?_
                refine g_p 73 rfl rfl ?_
                refine g_ias p rfl s2 (by omega) rfl (by omega) ?_
                rw [rmN_s I (a + 1) p k (by simp [rmv, h1, h2, show k < I (a + 1) p / 4 by omega])]
                refine g_l 77 rfl rfl ?_
                refine g_goto rfl ?_
                exact ih (p + 1) (by omega)
          · refine g_l 33 rfl rfl ?_
            refine g_fr rfl s1 ⟨⟨by decide, by omega, by decide⟩, by decide⟩ r1 ?_
            refine g_l 37 rfl rfl ?_
            refine g_p 38 rfl rfl ?_
            refine g_ias p rfl s2 (by omega) rfl (by omega) ?_
            rw [rmN_s I (a + 1) p k (by simp [rmv, h1, show I (a + 1) p / 4 = k by omega])]
            refine g_goto rfl ?_
            refine g_l 77 rfl rfl ?_
            refine g_goto rfl ?_
            exact ih (p + 1) (by omega)
  show Go L (d + 1) k_X3_removePiece 0 [some (vR a), some (vI k), none] [] I _
  refine g_p 1 rfl rfl ?_
  refine g_l 2 rfl rfl ?_
  have h := key (I a 0 * I a 1).toNat 0 (by omega)
  rw [rmN_0] at h
  exact h
end RD
