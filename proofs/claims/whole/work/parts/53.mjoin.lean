/-! EdgeJoinModel: joins -/
def FrJ (I J : zI) : Prop := (∀ q, q ≠ 137 → q ≠ 144 → q ≠ 145 → q ≠ 146 → J q = I q) ∧ ∀ j, j ≠ 9 → J 137 j = I 137 j
theorem FrJ.rf {I : zI} : FrJ I I := ⟨fun _ _ _ _ _ => rfl, fun _ _ => rfl⟩
theorem FrJ.tr {I J K : zI} (h1 : FrJ I J) (h2 : FrJ J K) : FrJ I K := ⟨fun q a b c e => (h2.1 q a b c e).trans (h1.1 q a b c e), fun j hj => (h2.2 j hj).trans (h1.2 j hj)⟩
theorem FrJ.q {I J : zI} (h : FrJ I J) : FrQ I J := ⟨fun q hq => h.1 q (by omega) (by omega) (by omega) (by omega), h.2 2 (by omega), h.2 12 (by omega)⟩
theorem FrJ.al {I J : zI} {v : Nat → Int} (h : FrJ I J) (hA : AL I v) : AL J v := hA.q h.q
theorem FrJ.up {I J : zI} {a k : Nat} {x : Int} (h : FrJ I J) (ha : a = 144 ∨ a = 145 ∨ a = 146 ∨ (a = 137 ∧ k = 9)) : FrJ I (zup2 J a k x) := by
  refine ⟨fun q q1 q2 q3 q4 => ?_, fun j hj => ?_⟩
  · rw [zup2_ne (by omega)]
    exact h.1 q q1 q2 q3 q4
  · by_cases h7 : a = 137
    · subst h7
      rw [zup2_an (by omega)]
      exact h.2 j hj
    · rw [zup2_ne (by omega)]
      exact h.2 j hj
def BJ (n : Nat) (K : zI) (B : Int × (Nat → Int)) : Prop := K 137 9 = B.1 ∧ (∀ j, j < n → K 145 j = B.2 j) ∧ 0 ≤ B.1 ∧ B.1 ≤ 1000
theorem fs_s {f : Nat → Int} {n : Nat} {w tu fr : Int} {r p : Nat} {row : Nat → Int} {cost : Int} {B : Int × (Nat → Int)} : ∀ N, N = r + 1 → fs f n w tu fr N p row cost B = fsV (okS f n w tu fr row p) (fun v => adC f (rowc row p) w n p v) cost (fun v c B => fs f n w tu fr r (p + 1) (zup row p v) c B) (4 * n) 0 B := by
  rintro _ rfl
  rfl
section MJ
variable {L d : Nat} {I K : zI} {v : Nat → Int} {hs : Nat → Nat → Int} {hn : Nat} {ct tx : Nat → Int} {tl : Nat}
theorem m_isUsed {p k : Nat} {rw1 : Nat → Int} (hp : p ≤ 8) (hk : k ≤ 8) (hr : ∀ j, j < p → K 144 j = rw1 j ∧ 0 ≤ rw1 j ∧ rw1 j < 32) : Ev L d k_X8_isUsed [vR 137, vI p, vI k] K (some (vI (b2c (∃ j, j < p ∧ rw1 j / 4 = (k : Int))))) K := by
  have key : ∀ (m i : Nat) (b : Int), i + m = p → (b = 0 ∨ b = 1) → (b = 1 ↔ ∃ j, j < i ∧ rw1 j / 4 = (k : Int)) → Go L d k_X8_isUsed 5 [some (vR 137), some (vI p), some (vI k), some (vI b), some (vI i)] [] K (fun r J => r = some (vI (b2c (∃ j, j < p ∧ rw1 j / 4 = (k : Int)))) ∧ J = K) := by
    intro m
    induction m with
    | zero =>
      intro i b hi hb hbi
      have hi : i = p := by omega
      subst hi
      refine g_l 7 rfl rfl ?_
      refine g_l 8 rfl rfl ?_
      refine g_ic_ge rfl (by omega) (by omega) (fun g => ?_) (fun g => ?_)
      · refine g_l 41 rfl rfl ?_
        refine g_retb rfl rfl hb ⟨?_, rfl⟩
        rcases hb with rfl | rfl
        · rw [b2c_0 (fun z => absurd (hbi.mpr z) (by decide))]
        · rw [b2c_1 (hbi.mp rfl)]
      · exact absurd g (by omega)
    | succ m ih =>
      intro i b hi hb hbi
      obtain ⟨h1, h2, h3⟩ := hr i (by omega)
      have yes : (b = 1 ∨ rw1 i / 4 = (k : Int)) → Go L d k_X8_isUsed 28 [some (vR 137), some (vI p), some (vI k), some (vI b), some (vI i)] [] K (fun r J => r = some (vI (b2c (∃ j, j < p ∧ rw1 j / 4 = (k : Int)))) ∧ J = K) := fun hy => by
        refine g_p 29 rfl rfl ?_
        refine g_goto rfl ?_
        refine g_l 34 rfl rfl ?_
        refine g_l 37 rfl rfl ?_
        refine g_goto rfl ?_
        refine ih (i + 1) 1 (by omega) (Or.inr rfl) ⟨fun _ => ?_, fun _ => rfl⟩
        rcases hy with hy | hy
        · obtain ⟨j, j1, j2⟩ := hbi.mp hy
          exact ⟨j, by omega, j2⟩
        · exact ⟨i, by omega, hy⟩
      refine g_l 7 rfl rfl ?_
      refine g_l 8 rfl rfl ?_
      refine g_ic_ge rfl (by omega) (by omega) (fun g => ?_) (fun g => ?_)
      · exact absurd g (by omega)
      · refine g_l 12 rfl rfl ?_
        refine g_if_ne rfl (by omega) (fun g1 => ?_) (fun g1 => ?_)
        · exact yes (Or.inl (by omega))
        · refine g_l 16 rfl rfl ?_
          refine g_fr rfl rfl ⟨⟨by decide, by omega, by decide⟩, by decide⟩ rfl ?_
          refine g_l 21 rfl rfl ?_
          refine g_ia i rfl rfl rfl (by omega) ?_
          rw [h1]
          refine g_p 23 rfl rfl ?_
          refine g_div 24 rfl (by omega) (by omega) ?_
          refine g_l 25 rfl rfl ?_
          refine g_ic_ne rfl (by omega) (by omega) (fun g2 => ?_) (fun g2 => ?_)
          · refine g_p 33 rfl rfl ?_
            refine g_l 34 rfl rfl ?_
            refine g_l 37 rfl rfl ?_
            refine g_goto rfl ?_
            refine ih (i + 1) 0 (by omega) (Or.inl rfl) ⟨fun z => absurd z (by decide), fun z => ?_⟩
            obtain ⟨j, j1, j2⟩ := z
            by_cases hji : j = i
            · rw [hji] at j2
              exact absurd j2 g2
            · have := hbi.mpr ⟨j, by omega, j2⟩
              omega
          · exact yes (Or.inr (Decidable.not_not.mp g2))
  show Go L d k_X8_isUsed 0 [some (vR 137), some (vI p), some (vI k), none, none] [] K _
  refine g_p 1 rfl rfl ?_
  refine g_l 2 rfl rfl ?_
  refine g_p 3 rfl rfl ?_
  refine g_l 5 rfl rfl ?_
  exact key p 0 0 (by omega) (Or.inl rfl) ⟨fun z => absurd z (by decide), fun z => by obtain ⟨j, j1, _⟩ := z; exact absurd j1 (by omega)⟩
theorem m_isFramed {x p wn gn : Nat} (hA : AL K v) (ho : OKv v) (hw : 1 ≤ wn ∧ wn ≤ 8) (hg : 1 ≤ gn ∧ gn ≤ 8) (hn1 : wn * gn = fN v) (hp : p < fN v) (hx : x < 4 * fN v) : Ev L (d + 4) k_X8_isFramed [vR 137, vI x, vI p, vI wn, vI gn] K (some (vI (b2c (ffF (fC v) wn (fN v) p x 4 0)))) K := by
  have hf := fN_le ho
  have hb := besideN wn (by omega) gn (by omega) (by omega) hw.1 hg.1 p (by omega) (by omega)
  have em : (p : Int) % (wn : Int) = ((p % wn : Nat) : Int) := (Int.natCast_emod _ _).symm
  obtain ⟨pd, hpd⟩ : ∃ pd, pd = p / wn := ⟨_, rfl⟩
  rw [← hpd] at hb
  have ed : (p : Int) / (wn : Int) = (pd : Int) := by rw [hpd]; exact (Int.natCast_ediv _ _).symm
  have lm := Nat.mod_lt p (show 0 < wn by omega)
  have ld : pd ≤ p := by rw [hpd]; exact Nat.div_le_self p wn
  have ex : (x : Int) / 4 = ((x / 4 : Nat) : Int) := by omega
  have key : ∀ (m q : Nat) (b : Int) (o7 : Option zV), q + m = 4 → (b = 0 ∨ b = 1) → ((b = 1 ∧ ffF (fC v) wn (fN v) p x m q) ↔ ffF (fC v) wn (fN v) p x 4 0) → Go L (d + 4) k_X8_isFramed 6 [some (vR 137), some (vI x), some (vI p), some (vI wn), some (vI gn), some (vI b), some (vI q), o7] [] K (fun r J => r = some (vI (b2c (ffF (fC v) wn (fN v) p x 4 0))) ∧ J = K) := by
    intro m
    induction m with
    | zero =>
      intro q b o7 hq hb1 hbi
      refine g_l 8 rfl rfl ?_
      refine g_p 9 rfl rfl ?_
      refine g_ic_ge rfl (by omega) (by omega) (fun g => ?_) (fun g => ?_)
      · refine g_l 130 rfl rfl ?_
        refine g_retb rfl rfl hb1 ⟨?_, rfl⟩
        rcases hb1 with rfl | rfl
        · rw [b2c_0 (fun z => absurd (hbi.mpr z).1 (by decide))]
        · rw [b2c_1 (hbi.mp ⟨rfl, trivial⟩)]
      · exact absurd g (by omega)
    | succ m ih =>
      intro q b o7 hq hb1 hbi
      have hs : ffF (fC v) wn (fN v) p x (m + 1) q ↔ ((nb wn (fN v) p q = -1 ↔ fC v (sdT x q).toNat = 0) ∧ ffF (fC v) wn (fN v) p x m (q + 1)) := Iff.rfl
      obtain ⟨y, hy⟩ := Int.eq_ofNat_of_zero_le (show 0 ≤ ((q : Int) - (x : Int) % 4 + 4) % 4 by omega)
      have hsd : (sdT x q).toNat = 4 * (x / 4) + y := by
        unfold sdT
        omega
      rw [hsd] at hs
      have b3 := b2i_r (fC v (4 * (x / 4) + y) = 0)
      have tail : ∀ (c : Int), (c = 1 ∧ nb wn (fN v) p q = -1 ∨ c = 0 ∧ nb wn (fN v) p q ≠ -1) → Go L (d + 4) k_X8_isFramed 88 [some (vR 137), some (vI x), some (vI p), some (vI wn), some (vI gn), some (vI b), some (vI q), o7] [vI c] K (fun r J => r = some (vI (b2c (ffF (fC v) wn (fN v) p x 4 0))) ∧ J = K) := by
        intro c hc
        have no : (b = 0 ∨ ¬ (nb wn (fN v) p q = -1 ↔ fC v (4 * (x / 4) + y) = 0)) → Go L (d + 4) k_X8_isFramed 119 [some (vR 137), some (vI x), some (vI p), some (vI wn), some (vI gn), some (vI b), some (vI q), some (vI c)] [] K (fun r J => r = some (vI (b2c (ffF (fC v) wn (fN v) p x 4 0))) ∧ J = K) := fun hno => by
          refine g_p 120 rfl rfl ?_
          refine g_l 122 rfl rfl ?_
          refine g_l 125 rfl rfl ?_
          refine g_goto rfl ?_
          refine ih (q + 1) 0 _ (by omega) (Or.inl rfl) ⟨fun z => absurd z.1 (by decide), fun z => ?_⟩
          have z2 := hbi.mpr z
          rcases hno with hno | hno
          · exact absurd z2.1 (by omega)
          · exact absurd (hs.mp z2.2).1 hno
        have yes : b = 1 → (nb wn (fN v) p q = -1 ↔ fC v (4 * (x / 4) + y) = 0) → Go L (d + 4) k_X8_isFramed 115 [some (vR 137), some (vI x), some (vI p), some (vI wn), some (vI gn), some (vI b), some (vI q), some (vI c)] [] K (fun r J => r = some (vI (b2c (ffF (fC v) wn (fN v) p x 4 0))) ∧ J = K) := fun h1 h2 => by
          refine g_p 116 rfl rfl ?_
          refine g_goto rfl ?_
          refine g_l 122 rfl rfl ?_
          refine g_l 125 rfl rfl ?_
          refine g_goto rfl ?_
          exact ih (q + 1) 1 _ (by omega) (Or.inr rfl) ⟨fun z => hbi.mp ⟨h1, hs.mpr ⟨h2, z.2⟩⟩, fun z => ⟨rfl, (hs.mp (hbi.mpr z).2).2⟩⟩
        refine g_l 90 rfl rfl ?_
        refine g_l 92 rfl rfl ?_
        refine g_if_eq rfl (by omega) (fun g => ?_) (fun g => ?_)
        · exact no (Or.inl g)
        · refine g_l 97 rfl rfl ?_
          refine g_l 98 rfl rfl ?_
          refine g_l 99 rfl rfl ?_
          refine g_p 100 rfl rfl ?_
          refine g_div 101 rfl (by omega) (by omega) ?_
          rw [ex]
          refine g_l 102 rfl rfl ?_
          refine g_p 103 rfl rfl ?_
          refine g_rem 104 rfl (by omega) (by omega) ?_
          refine g_l 106 rfl rfl ?_
          refine g_callE rfl (m_sideOf (by omega) (by omega)) ?_
          rw [hy]
          refine g_callE rfl (m_isFlat hA hf.1 (by omega) (by omega)) ?_ (hr := rcvM rfl)
          refine g_ic_ne rfl (by omega) (by omega) (fun g2 => ?_) (fun g2 => ?_)
          · refine no (Or.inr (fun z => g2 ?_))
            rcases hc with ⟨rfl, hc⟩ | ⟨rfl, hc⟩
            · exact b2i_t (z.mp hc)
            · exact b2i_f (fun w => hc (z.mpr w))
          · have g2 := Decidable.not_not.mp g2
            refine yes (by omega) ?_
            rcases hc with ⟨rfl, hc⟩ | ⟨rfl, hc⟩
            · exact ⟨fun _ => b2i_1 (by rw [← g2]; decide), fun _ => hc⟩
            · exact ⟨fun w => absurd w hc, fun w => absurd w (b2i_0 g2.symm)⟩
      refine g_l 8 rfl rfl ?_
      refine g_p 9 rfl rfl ?_
      refine g_ic_ge rfl (by omega) (by omega) (fun g => ?_) (fun g => ?_)
      · exact absurd g (by omega)
      · refine g_l 14 rfl rfl ?_
        refine g_if_ne rfl (by omega) (fun g0 => ?_) (fun g0 => ?_)
        · refine g_l 32 rfl rfl ?_
          refine g_p 33 rfl rfl ?_
          refine g_ic_ne rfl (by omega) (by omega) (fun g1 => ?_) (fun g1 => ?_)
          · refine g_l 55 rfl rfl ?_
            refine g_p 56 rfl rfl ?_
            refine g_ic_ne rfl (by omega) (by omega) (fun g2 => ?_) (fun g2 => ?_)
            · have hq3 : q = 3 := by omega
              have n3 : nb wn (fN v) p q = if 0 < (p : Int) % (wn : Int) then (p : Int) - 1 else -1 := by rw [hq3]; rfl
              rw [em] at n3
              refine g_l 78 rfl rfl ?_
              refine g_l 79 rfl rfl ?_
              refine g_rem 80 rfl (by omega) (by omega) ?_
              rw [em]
              refine g_if_ne rfl (by omega) (fun g3 => ?_) (fun g3 => ?_)
              · refine g_p 88 rfl rfl ?_
                have := Nat.mod_le p wn
                exact tail 0 (Or.inr ⟨rfl, by rw [n3, if_pos (by omega)]; omega⟩)
              · refine g_p 84 rfl rfl ?_
                refine g_goto rfl ?_
                exact tail 1 (Or.inl ⟨rfl, by rw [n3, if_neg (by omega)]⟩)
            · have hq2 : q = 2 := by omega
              have n2 : nb wn (fN v) p q = if (p : Int) + (wn : Int) < (fN v : Int) then (p : Int) + (wn : Int) else -1 := by rw [hq2]; rfl
              refine g_l 60 rfl rfl ?_
              refine g_l 61 rfl rfl ?_
              refine g_div 62 rfl (by omega) (by omega) ?_
              rw [ed]
              refine g_l 64 rfl rfl ?_
              refine g_p 65 rfl rfl ?_
              refine g_p 66 rfl rfl ?_
              refine g_ic_ne rfl (by omega) (by omega) (fun g3 => ?_) (fun g3 => ?_)
              · refine g_p 74 rfl rfl ?_
                refine g_goto rfl ?_
                exact tail 0 (Or.inr ⟨rfl, by rw [n2, if_pos (by omega)]; omega⟩)
              · refine g_p 70 rfl rfl ?_
                refine g_goto rfl ?_
                exact tail 1 (Or.inl ⟨rfl, by rw [n2, if_neg (by omega)]⟩)
          · have hq1 : q = 1 := by omega
            have n1 : nb wn (fN v) p q = if (p : Int) % (wn : Int) < (wn : Int) - 1 then (p : Int) + 1 else -1 := by rw [hq1]; rfl
            rw [em] at n1
            refine g_l 37 rfl rfl ?_
            refine g_l 38 rfl rfl ?_
            refine g_rem 39 rfl (by omega) (by omega) ?_
            rw [em]
            refine g_l 40 rfl rfl ?_
            refine g_p 41 rfl rfl ?_
            refine g_p 42 rfl rfl ?_
            refine g_ic_ne rfl (by omega) (by omega) (fun g3 => ?_) (fun g3 => ?_)
            · refine g_p 50 rfl rfl ?_
              refine g_goto rfl ?_
              exact tail 0 (Or.inr ⟨rfl, by rw [n1, if_pos (by omega)]; omega⟩)
            · refine g_p 46 rfl rfl ?_
              refine g_goto rfl ?_
              exact tail 1 (Or.inl ⟨rfl, by rw [n1, if_neg (by omega)]⟩)
        · have hq0 : q = 0 := by omega
          have n0 : nb wn (fN v) p q = if (wn : Int) ≤ (p : Int) then (p : Int) - (wn : Int) else -1 := by rw [hq0]; rfl
          refine g_l 18 rfl rfl ?_
          refine g_l 19 rfl rfl ?_
          refine g_ic_ge rfl (by omega) (by omega) (fun g3 => ?_) (fun g3 => ?_)
          · refine g_p 27 rfl rfl ?_
            refine g_goto rfl ?_
            exact tail 0 (Or.inr ⟨rfl, by rw [n0, if_pos g3]; omega⟩)
          · refine g_p 23 rfl rfl ?_
            refine g_goto rfl ?_
            exact tail 1 (Or.inl ⟨rfl, by rw [n0, if_neg g3]⟩)
  show Go L (d + 4) k_X8_isFramed 0 [some (vR 137), some (vI x), some (vI p), some (vI wn), some (vI gn), none, none, none] [] K _
  refine g_p 1 rfl rfl ?_
  refine g_l 3 rfl rfl ?_
  refine g_p 4 rfl rfl ?_
  refine g_l 6 rfl rfl ?_
  exact key 4 0 1 none (by omega) (Or.inr rfl) ⟨fun z => z.2, fun z => ⟨rfl, z⟩⟩
theorem m_added {x p wn gn : Nat} {rw1 : Nat → Int} (hA : AL K v) (ho : OKv v) (hw : 1 ≤ wn ∧ wn ≤ 8) (hg : 1 ≤ gn ∧ gn ≤ 8) (hn1 : wn * gn = fN v) (hp : p < fN v) (hx : x < 4 * fN v) (hr : ∀ j, j < p → K 144 j = rw1 j ∧ 0 ≤ rw1 j ∧ rw1 j < 4 * (fN v : Int)) : Ev L (d + 4) k_X8_added [vR 137, vI x, vI p, vI wn] K (some (vI (adC (fC v) (rowc rw1 p) wn (fN v) p x))) K := by
  have hf := fN_le ho
  have em : (p : Int) % (wn : Int) = ((p % wn : Nat) : Int) := (Int.natCast_emod _ _).symm
  have lm := Nat.mod_le p wn
  have n0 : nb wn (fN v) p ((0 : Nat) : Int) = if (wn : Int) ≤ (p : Int) then (p : Int) - (wn : Int) else -1 := rfl
  have n1 : nb wn (fN v) p ((0 + 1 : Nat) : Int) = if (p : Int) % (wn : Int) < (wn : Int) - 1 then (p : Int) + 1 else -1 := rfl
  have n2 : nb wn (fN v) p ((0 + 1 + 1 : Nat) : Int) = if (p : Int) + (wn : Int) < (fN v : Int) then (p : Int) + (wn : Int) else -1 := rfl
  have n3 : nb wn (fN v) p ((0 + 1 + 1 + 1 : Nat) : Int) = if 0 < (p : Int) % (wn : Int) then (p : Int) - 1 else -1 := rfl
  rw [em] at n3
  have rc : ∀ j, p ≤ j → rowc rw1 p j = -1 := fun j hj => if_neg (by omega)
  have e : adC (fC v) (rowc rw1 p) wn (fN v) p x = (if 0 < p % wn then tdf (fC v) x 3 (rw1 (p - 1)) else 0) + (if wn ≤ p then tdf (fC v) x 0 (rw1 (p - wn)) else 0) := by
    unfold adC
    rw [adF, adF, adF, adF, adF]
    have t1 : (if nb wn (fN v) p ((0 + 1 : Nat) : Int) ≠ -1 ∧ rowc rw1 p (nb wn (fN v) p ((0 + 1 : Nat) : Int)).toNat ≠ -1 then tdf (fC v) x ((0 + 1 : Nat) : Int) (rowc rw1 p (nb wn (fN v) p ((0 + 1 : Nat) : Int)).toNat) else 0) = 0 := by
      refine if_neg (fun z => z.2 (rc _ ?_))
      have z1 := z.1
      rw [n1] at z1 ⊢
      split at z1 <;> rename_i hc
      · rw [if_pos hc]
        omega
      · exact absurd rfl z1
    have t2 : (if nb wn (fN v) p ((0 + 1 + 1 : Nat) : Int) ≠ -1 ∧ rowc rw1 p (nb wn (fN v) p ((0 + 1 + 1 : Nat) : Int)).toNat ≠ -1 then tdf (fC v) x ((0 + 1 + 1 : Nat) : Int) (rowc rw1 p (nb wn (fN v) p ((0 + 1 + 1 : Nat) : Int)).toNat) else 0) = 0 := by
      refine if_neg (fun z => z.2 (rc _ ?_))
      have z1 := z.1
      rw [n2] at z1 ⊢
      split at z1 <;> rename_i hc
      · rw [if_pos hc]
        omega
      · exact absurd rfl z1
    have t0 : (if nb wn (fN v) p ((0 : Nat) : Int) ≠ -1 ∧ rowc rw1 p (nb wn (fN v) p ((0 : Nat) : Int)).toNat ≠ -1 then tdf (fC v) x ((0 : Nat) : Int) (rowc rw1 p (nb wn (fN v) p ((0 : Nat) : Int)).toNat) else 0) = (if wn ≤ p then tdf (fC v) x 0 (rw1 (p - wn)) else 0) := by
      rw [n0]
      by_cases hc : wn ≤ p
      · have hq : ((p : Int) - (wn : Int)).toNat = p - wn := by omega
        have hrc : rowc rw1 p (p - wn) = rw1 (p - wn) := if_pos (by omega)
        have hr1 := hr (p - wn) (by omega)
        rw [if_pos (show (wn : Int) ≤ (p : Int) by omega), hq, hrc, if_pos hc, if_pos ⟨by omega, by omega⟩]
        rfl
      · rw [if_neg (show ¬ (wn : Int) ≤ (p : Int) by omega), if_neg (fun z => z.1 rfl), if_neg hc]
    have t3 : (if nb wn (fN v) p ((0 + 1 + 1 + 1 : Nat) : Int) ≠ -1 ∧ rowc rw1 p (nb wn (fN v) p ((0 + 1 + 1 + 1 : Nat) : Int)).toNat ≠ -1 then tdf (fC v) x ((0 + 1 + 1 + 1 : Nat) : Int) (rowc rw1 p (nb wn (fN v) p ((0 + 1 + 1 + 1 : Nat) : Int)).toNat) else 0) = (if 0 < p % wn then tdf (fC v) x 3 (rw1 (p - 1)) else 0) := by
      rw [n3]
      by_cases hc : 0 < p % wn
      · have hq : ((p : Int) - 1).toNat = p - 1 := by omega
        have hrc : rowc rw1 p (p - 1) = rw1 (p - 1) := if_pos (by omega)
        have hr1 := hr (p - 1) (by omega)
        rw [if_pos (show (0 : Int) < ((p % wn : Nat) : Int) by omega), hq, hrc, if_pos hc, if_pos ⟨by omega, by omega⟩]
        rfl
      · rw [if_neg (show ¬ (0 : Int) < ((p % wn : Nat) : Int) by omega), if_neg (fun z => z.1 rfl), if_neg hc]
    rw [t0, t1, t2, t3]
    omega
  rw [e]
  show Go L (d + 4) k_X8_added 0 [some (vR 137), some (vI x), some (vI p), some (vI wn), none] [] K _
  have tail : ∀ y : Int, y = (if 0 < p % wn then tdf (fC v) x 3 (rw1 (p - 1)) else 0) → Go L (d + 4) k_X8_added 24 [some (vR 137), some (vI x), some (vI p), some (vI wn), none] [vI y] K (fun r J => r = some (vI ((if 0 < p % wn then tdf (fC v) x 3 (rw1 (p - 1)) else 0) + (if wn ≤ p then tdf (fC v) x 0 (rw1 (p - wn)) else 0))) ∧ J = K) := fun y hy => by
    rw [← hy]
    refine g_l 26 rfl rfl ?_
    refine g_l 28 rfl rfl ?_
    refine g_l 29 rfl rfl ?_
    refine g_l 30 rfl rfl ?_
    refine g_ic_lt rfl (by omega) (by omega) (fun g => ?_) (fun g => ?_)
    · rw [if_neg (by omega)]
      refine g_p 51 rfl rfl ?_
      refine g_p 52 rfl rfl ?_
      exact g_ret rfl rfl ⟨rfl, rfl⟩
    · rw [if_pos (by omega)]
      obtain ⟨h1, h2, h3⟩ := hr (p - wn) (by omega)
      obtain ⟨o, ho2⟩ := Int.eq_ofNat_of_zero_le h2
      refine g_l 34 rfl rfl ?_
      refine g_l 35 rfl rfl ?_
      refine g_p 36 rfl rfl ?_
      refine g_l 37 rfl rfl ?_
      refine g_fr rfl rfl ⟨⟨by decide, by omega, by decide⟩, by decide⟩ rfl ?_
      refine g_l 41 rfl rfl ?_
      refine g_l 42 rfl rfl ?_
      refine g_p 43 rfl rfl ?_
      refine g_ia (p - wn) rfl rfl (by omega) (by omega) ?_
      rw [h1]
      rw [ho2] at h3 ⊢
      refine g_callE rfl (m_between hA ho hx (by omega) (by omega)) ?_ (hr := rcvM rfl)
      refine g_goto rfl ?_
      refine g_p 52 rfl rfl ?_
      exact g_ret rfl rfl ⟨rfl, rfl⟩
  refine g_l 1 rfl rfl ?_
  refine g_l 2 rfl rfl ?_
  refine g_rem 3 rfl (by omega) (by omega) ?_
  rw [em]
  refine g_if_le rfl (by omega) (fun g => ?_) (fun g => ?_)
  · refine g_p 24 rfl rfl ?_
    exact tail 0 (by rw [if_neg (by omega)])
  · obtain ⟨h1, h2, h3⟩ := hr (p - 1) (by omega)
    obtain ⟨o, ho2⟩ := Int.eq_ofNat_of_zero_le h2
    rw [if_pos (by omega)] at tail ⊢
    refine g_l 7 rfl rfl ?_
    refine g_l 8 rfl rfl ?_
    refine g_p 9 rfl rfl ?_
    refine g_l 10 rfl rfl ?_
    refine g_fr rfl rfl ⟨⟨by decide, by omega, by decide⟩, by decide⟩ rfl ?_
    refine g_l 14 rfl rfl ?_
    refine g_p 15 rfl rfl ?_
    refine g_p 16 rfl rfl ?_
    refine g_ia (p - 1) rfl rfl (by omega) (by omega) ?_
    rw [h1]
    rw [ho2] at h3 tail ⊢
    refine g_callE rfl (m_between hA ho hx (by omega) (by omega)) ?_ (hr := rcvM rfl)
    refine g_goto rfl ?_
    exact tail _ rfl
end MJ
