/-! State: drop, table, take; History -/
section SW
variable {L d : Nat} {I : zI} {a : Nat} {v : Nat → Int}
/-- dropping: i cells shifted, from p on up to n -/
def shN (I : zI) (b p n : Nat) : zI := fun q => if q = b then (fun j => if p ≤ j ∧ j < n then I b (j + 1) else I b j) else I q
theorem shN_0 (I : zI) (b p : Nat) : shN I b p p = I := by
  funext q j
  unfold shN
  split
  · rename_i h
    subst h
    simp only []
    rw [if_neg (by omega)]
  · rfl
theorem shN_s (I : zI) (b p n : Nat) (h : p ≤ n) : zup2 (shN I b p n) b n (shN I b p n b (n + 1)) = shN I b p (n + 1) := by
  funext q j
  unfold zup2 shN zup
  by_cases h1 : q = b
  · subst h1
    simp only [if_true]
    by_cases h2 : j = n
    · subst h2
      rw [if_pos rfl, if_neg (by omega), if_pos (by omega)]
    · rw [if_neg h2]
      by_cases h3 : p ≤ j ∧ j < n
      · rw [if_pos h3, if_pos (by omega)]
      · rw [if_neg h3, if_neg (by omega)]
  · simp [h1]
theorem shN_ne {I : zI} {b p n q : Nat} (h : q ≠ b) : shN I b p n q = I q := if_neg h
theorem RO.at {I J : zI} {a : Nat} (h : RO I a) (h1 : J a = I a) (h2 : J (a + 1) = I (a + 1)) : RO J a := by
  unfold RO at h ⊢
  rw [h1, h2]
  exact h
theorem c_dropPiece {p : Int} (hA : IsSt a) (hv : StAt I a v) (ho : OKv v) (hp : rng p) : Ct L (d + 2) k_X5_dropPiece [vR a, vI p] I (PS a I (sDrop v p)) := by
  obtain ⟨s1, s2, r1, r2, ha, hRa⟩ := hA.s (L := L)
  obtain ⟨h1, h2, h3, h4, h5⟩ := id hv
  have o1 := ho.1
  obtain ⟨hro, h8⟩ := hv.ro ho
  show Go L (d + 2) k_X5_dropPiece 0 [some (vR a), some (vI p), none] [] I _
  have hb := b2i_r (0 ≤ p ∧ p < v 0)
  refine g_l 1 rfl rfl ?_
  refine g_l 2 rfl rfl ?_
  refine g_callE rfl (c_hasPiece hA hv ho hp) ?_ (hr := rcv s1 ⟨by decide, by omega, rfl⟩)
  refine g_if_ne rfl (by omega) (fun h => ?_) (fun h => ?_)
  · have h := b2i_1 h
    refine g_l 12 rfl rfl ?_
    refine g_p 13 rfl rfl ?_
    refine g_fi rfl s1 ⟨⟨by decide, by omega, by decide⟩, by decide⟩ ?_
    refine g_p 17 rfl rfl ?_
    refine g_p 18 rfl rfl ?_
    refine g_wi rfl s1 ⟨⟨by decide, by omega, by decide⟩, by decide⟩ ?_
    refine g_l 22 rfl rfl ?_
    refine g_l 23 rfl rfl ?_
    have key : ∀ (m i : Nat), (i : Int) + m = v 0 - 1 → p.toNat ≤ i → Go L (d + 2) k_X5_dropPiece 23 [some (vR a), some (vI p), some (vI i)] [] (shN (zup2 I a 0 (I a 0 - 1)) (a + 1) p.toNat i) (PS a I (sDrop v p)) := by
      intro m
      induction m with
      | zero =>
        intro i hi hpi
        refine g_l 24 rfl rfl ?_
        refine g_l 25 rfl rfl ?_
        refine g_fi rfl s1 ⟨⟨by decide, by omega, by decide⟩, by decide⟩ ?_
        rw [shN_ne (by omega), zup2_at]
        refine g_ic_ge rfl (by omega) (by omega) (fun g => ?_) (fun g => ?_)
        · refine g_l 52 rfl rfl ?_
          refine g_fr rfl s1 ⟨⟨by decide, by omega, by decide⟩, by decide⟩ r2 ?_
          refine g_l 56 rfl rfl ?_
          have e1 : (shN (zup2 I a 0 (I a 0 - 1)) (a + 1) p.toNat i) (a + 2) = I (a + 2) := by rw [shN_ne (by omega), zup2_ne (by omega)]
          have e2 : (shN (zup2 I a 0 (I a 0 - 1)) (a + 1) p.toNat i) (a + 2 + 1) = I (a + 2 + 1) := by rw [shN_ne (by omega), zup2_ne (by omega)]
          refine g_callE rfl (c_removePiece hRa (hro.at e1 e2) (by rw [e1]; exact h8) hp) ?_ (hr := rcv (hRa.s (L := L)).1 ⟨by decide, by omega, rfl⟩)
          refine g_l 60 rfl rfl ?_
          refine g_fi rfl s1 ⟨⟨by decide, by omega, by decide⟩, by decide⟩ ?_
          refine g_ret rfl rfl ?_
          unfold sDrop
          rw [if_pos h, e1]
          refine ⟨?_, ⟨?_, fun j hj => ?_, ?_, ?_, fun j hj => ?_⟩, fun q hq => ?_⟩
          · rw [rmN_ne (by omega), shN_ne (by omega), zup2_at, h1]
          · rw [rmN_ne (by omega), shN_ne (by omega), zup2_at, h1]
            rfl
          · rw [rmN_ne (by omega)]
            have e3 : i = (v 0 - 1).toNat := by omega
            simp only [shN, if_true, vDrop]
            rw [zup2_ne (by omega), if_neg (show ¬ 1 + j = 0 by omega), if_pos (show 1 + j < 9 by omega)]
            by_cases hj2 : p.toNat ≤ j ∧ j < i
            · rw [if_pos hj2, if_pos (by omega), h2 (j + 1) (by omega), show 1 + (j + 1) = 1 + j + 1 by omega]
            · rw [if_neg hj2, if_neg (by omega), h2 j hj]
          · rw [rmN_ne (by omega), shN_ne (by omega), zup2_ne (by omega), h3]
            rfl
          · rw [rmN_ne (by omega), shN_ne (by omega), zup2_ne (by omega), h4]
            rfl
          · show rmN _ (a + 2 + 1) _ _ (a + 2 + 1) j = _
            simp only [rmN, if_true, vDrop]
            rw [e2, if_neg (show ¬ 11 + j = 0 by omega), if_neg (show ¬ 11 + j < 9 by omega), if_neg (show ¬ 11 + j < 11 by omega), if_pos (show 11 + j < 19 by omega)]
            have e5 : I (a + 2 + 1) j = v (11 + j) := h5 j hj
            rw [e5]
            split
            · rfl
            · have o := (ho.2.2.2.1 j hj).2.2 (by rw [← h3, ← h4]; omega)
              rw [o]
              simp [rmv]
          · rw [rmN_ne (by omega), shN_ne (by omega), zup2_ne (by omega)]
        · exact absurd g (by omega)
      | succ m ih =>
        intro i hi hpi
        refine g_l 24 rfl rfl ?_
        refine g_l 25 rfl rfl ?_
        refine g_fi rfl s1 ⟨⟨by decide, by omega, by decide⟩, by decide⟩ ?_
        rw [shN_ne (by omega), zup2_at]
        refine g_ic_ge rfl (by omega) (by omega) (fun g => ?_) (fun g => ?_)
        · exact absurd g (by omega)
        · refine g_l 32 rfl rfl ?_
          refine g_fr rfl s1 ⟨⟨by decide, by omega, by decide⟩, by decide⟩ r1 ?_
          refine g_l 36 rfl rfl ?_
          refine g_l 37 rfl rfl ?_
          refine g_fr rfl s1 ⟨⟨by decide, by omega, by decide⟩, by decide⟩ r1 ?_
          refine g_l 41 rfl rfl ?_
          refine g_p 42 rfl rfl ?_
          refine g_p 43 rfl rfl ?_
          refine g_ia (i + 1) rfl s2 (by omega) (by omega) ?_
          refine g_ias i rfl s2 (by omega) rfl (by omega) ?_
          rw [shN_s _ _ _ _ hpi]
          refine g_l 48 rfl rfl ?_
          refine g_goto rfl ?_
          exact ih (i + 1) (by omega) (by omega)
    have hk := key (v 0 - 1 - p).toNat p.toNat (by omega) (Nat.le_refl _)
    rw [shN_0] at hk
    have ep : ((p.toNat : Nat) : Int) = p := by omega
    rw [ep] at hk
    exact hk
  · refine g_p 10 rfl rfl ?_
    refine g_ret rfl rfl ?_
    unfold sDrop
    rw [if_neg (b2i_0 (by omega))]
    exact ⟨rfl, hv, Fr.rf⟩
theorem c_layTable {w h : Int} (hA : IsSt a) (hv : StAt I a v) (ho : OKv v) (hw : rng w) (hh : rng h) : Ct L (d + 2) k_X5_layTable [vR a, vI w, vI h] I (PS a I (sTab v w h)) := by
  obtain ⟨s1, s2, r1, r2, ha, hRa⟩ := hA.s (L := L)
  obtain ⟨h1, h2, h3, h4, h5⟩ := id hv
  obtain ⟨hro, h8⟩ := hv.ro ho
  have t1 := hRa.s (L := L)
  have hb := b2i_r (tsz w h)
  show Go L (d + 2) k_X5_layTable 0 [some (vR a), some (vI w), some (vI h), none] [] I _
  refine g_l 1 rfl rfl ?_
  refine g_l 2 rfl rfl ?_
  refine g_callE rfl (c_isTableSize hw hh) ?_
  refine g_if_ne rfl (by omega) (fun hz => ?_) (fun hz => ?_)
  · have hz := b2i_1 hz
    refine g_l 12 rfl rfl ?_
    refine g_fr rfl s1 ⟨⟨by decide, by omega, by decide⟩, by decide⟩ r2 ?_
    refine g_callE rfl (c_countPieces hRa hro h8) ?_ (hr := rcv t1.1 ⟨by decide, by omega, rfl⟩)
    refine g_l 19 rfl rfl ?_
    refine g_l 20 rfl rfl ?_
    refine g_fr rfl s1 ⟨⟨by decide, by omega, by decide⟩, by decide⟩ r2 ?_
    refine g_l 24 rfl rfl ?_
    refine g_l 25 rfl rfl ?_
    refine g_callE rfl (c_reset hRa) ?_ (hr := rcv t1.1 ⟨by decide, by omega, rfl⟩)
    refine g_l 29 rfl rfl ?_
    refine g_ret rfl rfl ?_
    unfold sTab
    rw [if_pos hz]
    refine ⟨?_, ⟨?_, fun j hj => ?_, ?_, ?_, fun j hj => ?_⟩, fun q hq => ?_⟩
    · have e : cn (I (a + 2 + 1)) (I (a + 2) 0 * I (a + 2) 1) = cn (vc v) (v 9 * v 10) := by
        rw [h3, h4]
        unfold cn
        refine cnF_eq _ _ (fun j _ hj => h5 j ?_)
        rw [h3, h4] at h8
        omega
      show some (vI (cn (I (a + 2 + 1)) (I (a + 2) 0 * I (a + 2) 1))) = _
      rw [e]
    · rw [fl8_ne (by omega), zup2_ne (by omega), zup2_ne (by omega), h1]
      rfl
    · rw [fl8_ne (by omega), zup2_ne (by omega), zup2_ne (by omega), h2 j hj]
      simp only [vTab]
      rw [if_pos (by omega)]
    · rw [fl8_ne (by omega), zup2_an (by omega), zup2_at]
      rfl
    · rw [fl8_ne (by omega), zup2_at]
      rfl
    · show fl8 _ (a + 2 + 1) _ (a + 2 + 1) j = _
      rw [fl8_at hj]
      simp only [vTab]
      rw [if_neg (by omega), if_neg (by omega), if_neg (by omega), if_pos (by omega)]
    · rw [fl8_ne (by omega), zup2_ne (by omega), zup2_ne (by omega)]
  · refine g_p 10 rfl rfl ?_
    refine g_ret rfl rfl ?_
    unfold sTab
    rw [if_neg (b2i_0 (by omega))]
    exact ⟨rfl, hv, Fr.rf⟩
theorem c_take {p : Int} (hA : IsSt a) (hv : StAt I a v) (ho : OKv v) (hp : rng p) : Ct L (d + 2) k_X5_takeFromTable [vR a, vI p] I (PS a I (sTake v p)) := by
  obtain ⟨s1, s2, r1, r2, ha, hRa⟩ := hA.s (L := L)
  obtain ⟨h1, h2, h3, h4, h5⟩ := id hv
  obtain ⟨hro, h8⟩ := hv.ro ho
  obtain ⟨t1, t2, t3, t4⟩ := hRa.s (L := L)
  have hb := b2i_r (0 ≤ p ∧ p < I (a + 2) 0 * I (a + 2) 1)
  show Go L (d + 2) k_X5_takeFromTable 0 [some (vR a), some (vI p), none] [] I _
  refine g_l 1 rfl rfl ?_
  refine g_fr rfl s1 ⟨⟨by decide, by omega, by decide⟩, by decide⟩ r2 ?_
  refine g_l 5 rfl rfl ?_
  refine g_callE rfl (c_hasPlace hRa hro hp) ?_ (hr := rcv t1 ⟨by decide, by omega, rfl⟩)
  refine g_if_ne rfl (by omega) (fun hz => ?_) (fun hz => ?_)
  · have hz := b2i_1 hz
    have o := ho.2.2.2.1 p.toNat (by omega)
    have e5 : I (a + 2 + 1) p.toNat = v (11 + p.toNat) := h5 p.toNat (by omega)
    have o0 := ho.1
    refine g_l 15 rfl rfl ?_
    refine g_fr rfl s1 ⟨⟨by decide, by omega, by decide⟩, by decide⟩ r2 ?_
    refine g_fr rfl t1 ⟨⟨by decide, by omega, by decide⟩, by decide⟩ t3 ?_
    refine g_l 22 rfl rfl ?_
    refine g_ia p.toNat rfl t2 (by omega) (by omega) ?_
    rw [e5]
    refine g_p 24 rfl rfl ?_
    refine g_ic_ne rfl (by omega) (by omega) (fun hy => ?_) (fun hy => ?_)
    · refine g_l 31 rfl rfl ?_
      refine g_fr rfl s1 ⟨⟨by decide, by omega, by decide⟩, by decide⟩ r2 ?_
      refine g_fr rfl t1 ⟨⟨by decide, by omega, by decide⟩, by decide⟩ t3 ?_
      refine g_l 38 rfl rfl ?_
      refine g_ia p.toNat rfl t2 (by omega) (by omega) ?_
      rw [e5]
      refine g_p 40 rfl rfl ?_
      refine g_div 41 rfl (by omega) (by omega) ?_
      refine g_l 42 rfl rfl ?_
      refine g_l 43 rfl rfl ?_
      refine g_fr rfl s1 ⟨⟨by decide, by omega, by decide⟩, by decide⟩ r2 ?_
      refine g_fr rfl t1 ⟨⟨by decide, by omega, by decide⟩, by decide⟩ t3 ?_
      refine g_l 50 rfl rfl ?_
      refine g_p 51 rfl rfl ?_
      refine g_ias p.toNat rfl t2 (by omega) (by omega) (by omega) ?_
      refine g_l 53 rfl rfl ?_
      refine g_ret rfl rfl ?_
      unfold sTake
      rw [if_pos (by rw [← h3, ← h4]; exact hz), if_neg hy]
      refine ⟨rfl, ⟨?_, fun j hj => ?_, ?_, ?_, fun j hj => ?_⟩, fun q hq => ?_⟩
      · rw [zup2_ne (by omega), h1]
        simp only [zup]
        rw [if_neg (by omega)]
      · rw [zup2_ne (by omega), h2 j hj]
        simp only [zup]
        rw [if_neg (by omega)]
      · rw [zup2_ne (by omega), h3]
        simp only [zup]
        rw [if_neg (by omega)]
      · rw [zup2_ne (by omega), h4]
        simp only [zup]
        rw [if_neg (by omega)]
      · show zup2 _ (a + 2 + 1) _ _ (a + 2 + 1) j = _
        by_cases hj2 : j = p.toNat
        · subst hj2
          rw [zup2_at]
          simp [zup]
        · rw [zup2_an hj2]
          have e6 : I (a + 2 + 1) j = v (11 + j) := h5 j hj
          rw [e6]
          simp only [zup]
          rw [if_neg (by omega)]
      · rw [zup2_ne (by omega)]
    · refine g_p 29 rfl rfl ?_
      refine g_ret rfl rfl ?_
      unfold sTake
      rw [if_pos (by rw [← h3, ← h4]; exact hz), if_pos (by omega)]
      exact ⟨rfl, hv, Fr.rf⟩
  · refine g_p 13 rfl rfl ?_
    refine g_ret rfl rfl ?_
    unfold sTake
    rw [if_neg (by rw [← h3, ← h4]; exact b2i_0 (by omega))]
    exact ⟨rfl, hv, Fr.rf⟩
end SW
