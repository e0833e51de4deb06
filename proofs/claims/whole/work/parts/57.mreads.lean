/-! EdgeJoinModel: orders, reads -/
def cOb (v : Nat → Int) (c : Int) (u : Nat → Int) : Int := if c = 112 then (if v 0 = 8 then -4 else 0) else if c = 116 then (if tsz (u 0) (u 1) then 0 else -2) else if c = 97 then cPut v (u 0) (u 1) (u 2) else if c = 120 then cTake v (u 0) else if mkOK (u 0) (u 1) (u 2) (u 3) then 0 else -2
theorem cOb_ob {v u : Nat → Int} {c : Int} (ho : OKv v) : (cOb v c u < 0 ↔ (ob v c u).1 < 0) ∧ rng (cOb v c u) := by
  have h0 := ho.1
  have h4 := ho.2.2.2.1
  have hS := fS_rng ho
  unfold cOb ob
  by_cases c1 : c = 112
  · rw [if_pos c1, if_pos c1]
    unfold sAdd
    by_cases hv : v 0 = 8
    · rw [if_pos hv, if_neg (by omega)]
      exact ⟨⟨fun _ => show (-4 : Int) < 0 by decide, fun _ => by decide⟩, r_4⟩
    · rw [if_neg hv, if_pos (by omega)]
      exact ⟨⟨fun z => absurd z (by decide), fun z => absurd (show v 0 < 0 from z) (by omega)⟩, by decide⟩
  · rw [if_neg c1, if_neg c1]
    by_cases c2 : c = 116
    · rw [if_pos c2, if_pos c2]
      have hcn := cnF_rng (vc v) (v 9 * v 10).toNat 0
      unfold sTab
      by_cases ht : tsz (u 0) (u 1)
      · rw [if_pos ht, if_pos ht]
        exact ⟨⟨fun z => absurd z (by decide), fun z => absurd (show cnF (vc v) (v 9 * v 10).toNat 0 < 0 from z) (by omega)⟩, by decide⟩
      · rw [if_neg ht, if_neg ht]
        exact ⟨⟨fun _ => show (-2 : Int) < 0 by decide, fun _ => by decide⟩, r_2⟩
    · rw [if_neg c2, if_neg c2]
      by_cases c3 : c = 97
      · rw [if_pos c3, if_pos c3]
        have had := adA_rng v (u 0) (4 * u 1 + u 2)
        unfold cPut sPut
        by_cases h1 : (0 ≤ u 0 ∧ u 0 < fS v) ∧ (0 ≤ u 1 ∧ u 1 < v 0) ∧ 0 ≤ u 2 ∧ u 2 < 4
        · rw [if_pos h1, if_pos (show (0 ≤ u 0 ∧ u 0 < v 9 * v 10) ∧ (0 ≤ u 1 ∧ u 1 < v 0) ∧ 0 ≤ u 2 ∧ u 2 < 4 from h1)]
          by_cases h2 : v (11 + (u 0).toNat) = -1 ∧ pl (vc v) (fS v) (u 1) = -1
          · rw [if_pos h2, if_pos (show v (11 + (u 0).toNat) = -1 ∧ pl (vc v) (v 9 * v 10) (u 1) = -1 from h2)]
            exact ⟨⟨fun z => absurd z (by decide), fun z => absurd (show adA v (u 0) (4 * u 1 + u 2) < 0 from z) (by omega)⟩, by decide⟩
          · rw [if_neg h2, if_neg (show ¬ (v (11 + (u 0).toNat) = -1 ∧ pl (vc v) (v 9 * v 10) (u 1) = -1) from h2)]
            exact ⟨⟨fun _ => show (-3 : Int) < 0 by decide, fun _ => by decide⟩, r_3⟩
        · rw [if_neg h1, if_neg (show ¬ ((0 ≤ u 0 ∧ u 0 < v 9 * v 10) ∧ (0 ≤ u 1 ∧ u 1 < v 0) ∧ 0 ≤ u 2 ∧ u 2 < 4) from h1)]
          exact ⟨⟨fun _ => show (-2 : Int) < 0 by decide, fun _ => by decide⟩, r_2⟩
      · rw [if_neg c3, if_neg c3]
        by_cases c4 : c = 120
        · rw [if_pos c4, if_pos c4]
          unfold cTake sTake
          by_cases h1 : 0 ≤ u 0 ∧ u 0 < fS v
          · rw [if_pos h1, if_pos (show 0 ≤ u 0 ∧ u 0 < v 9 * v 10 from h1)]
            have h4p := h4 (u 0).toNat (by omega)
            by_cases h2 : v (11 + (u 0).toNat) = -1
            · rw [if_pos h2, if_pos h2]
              exact ⟨⟨fun _ => show (-3 : Int) < 0 by decide, fun _ => by decide⟩, r_3⟩
            · rw [if_neg h2, if_neg h2]
              exact ⟨⟨fun z => absurd z (by decide), fun z => absurd (show v (11 + (u 0).toNat) / 4 < 0 from z) (by omega)⟩, by decide⟩
          · rw [if_neg h1, if_neg (show ¬ (0 ≤ u 0 ∧ u 0 < v 9 * v 10) from h1)]
            exact ⟨⟨fun _ => show (-2 : Int) < 0 by decide, fun _ => by decide⟩, r_2⟩
        · rw [if_neg c4, if_neg c4]
          unfold sMk
          by_cases hm : mkOK (u 0) (u 1) (u 2) (u 3)
          · rw [if_pos hm, if_pos hm]
            have e := Int.mul_nonneg (show 0 ≤ u 1 by have := hm.2.1.1; omega) (show 0 ≤ u 2 by have := hm.2.1.2.1; omega)
            exact ⟨⟨fun z => absurd z (by decide), fun z => absurd (show u 1 * u 2 < 0 from z) (by omega)⟩, by decide⟩
          · rw [if_neg hm, if_neg hm]
            exact ⟨⟨fun _ => show (-2 : Int) < 0 by decide, fun _ => by decide⟩, r_2⟩
theorem ob_ok {v u : Nat → Int} {c : Int} (ho : OKv v) (hr : ∀ j, rng (u j)) : OKv (ob v c u).2 := by
  unfold ob
  split
  · exact ok_add ho (hr 0)
  · split
    · exact ok_tab ho
    · split
      · exact ok_put ho
      · split
        · exact ok_take ho
        · exact ok_mk ho
theorem skF_stop (tx : Nat → Int) : ∀ m p, skF tx m p = p + m ∨ tx (skF tx m p) ≠ 32
  | 0, p => Or.inl rfl
  | m + 1, p => by
    unfold skF
    split
    · have := skF_stop tx m (p + 1)
      omega
    · rename_i h
      exact Or.inr h
theorem sk_sk {tx : Nat → Int} {tl p : Nat} (hp : p ≤ tl) : sk tx tl (sk tx tl p) = sk tx tl p := by
  have hr := sk_rng (tx := tx) hp
  have hs := skF_stop tx (tl - p) p
  have hd : sk tx tl p = skF tx (tl - p) p := rfl
  rw [← hd] at hs
  generalize sk tx tl p = s at hr hs ⊢
  unfold sk
  rcases hs with hs | hs
  · rw [show tl - s = 0 by omega]
    rfl
  · cases h : tl - s with
    | zero => rfl
    | succ m => rw [skF, if_neg hs]
theorem pcF_adv {tx : Nat → Int} {tl : Nat} : ∀ (m i p : Nat) (x : Int), p ≤ tl → (pcF tx tl m i p x).1 = true → p + m ≤ (pcF tx tl m i p x).2.1
  | 0, i, p, x, _, _ => Nat.le_refl _
  | m + 1, i, p, x, hp, h => by
    have h1 := sk_rng (tx := tx) hp
    unfold pcF at h ⊢
    split at h
    · rename_i h2
      rw [if_pos h2]
      have hl := bh_lt (tx := tx) (tl := tl) (p := sk tx tl p) (by omega)
      have := pcF_adv m (i + 1) (sk tx tl p + 1) _ (by omega) h
      omega
    · exact absurd h Bool.false_ne_true
theorem pnF_adv {tx : Nat → Int} {tl : Nat} : ∀ (m i p : Nat) (u : Nat → Int), p ≤ tl → (pnF tx tl m i p u).1 = true → p + m ≤ (pnF tx tl m i p u).2.1
  | 0, i, p, u, _, _ => Nat.le_refl _
  | m + 1, i, p, u, hp, h => by
    have h1 := sk_rng (tx := tx) hp
    have h2 := nmF_rng (tx := tx) (tl := tl) 6 (sk tx tl p) 0 h1.2
    unfold pnF at h ⊢
    split at h
    · exact absurd h Bool.false_ne_true
    · rename_i h3
      rw [if_neg h3]
      have h4 : (nmF tx tl 6 (sk tx tl p) 0).1 ≠ sk tx tl p := fun z => h3 (Or.inl z)
      have := pnF_adv m (i + 1) (nmF tx tl 6 (sk tx tl p) 0).1 _ h2.2.2 h
      omega
theorem poF_3 {tx : Nat → Int} {tl p : Nat} (h : (poF tx tl p).1 = true) : p + 3 ≤ (poF tx tl p).2.1 := by
  unfold poF at h ⊢
  by_cases hw : wn (bh tx tl p) = 0
  · rw [if_pos hw] at h
    exact absurd h Bool.false_ne_true
  · rw [if_neg hw] at h ⊢
    have hlt := wn_lt hw
    have hpb := pbF_rng (tx := tx) hlt
    have hs := sk_rng (tx := tx) hpb.2
    by_cases hb : (pbF tx tl p).1 = true
    · rw [if_pos hb] at h ⊢
      have hadv : p + 2 ≤ (pbF tx tl p).2.1 := by
        unfold pbF at hb ⊢
        by_cases h112 : bh tx tl p = 112
        · rw [if_pos h112] at hb ⊢
          have := pcF_adv 16 0 (p + 1) 0 (by omega) hb
          show p + 2 ≤ (pcF tx tl 16 0 (p + 1) 0).2.1
          omega
        · rw [if_neg h112] at hb ⊢
          have := pnF_adv (wn (bh tx tl p)) 0 (p + 1) _ (by omega) hb
          omega
      by_cases h59 : bh tx tl (sk tx tl (pbF tx tl p).2.1) = 59
      · rw [if_pos h59]
        show p + 3 ≤ sk tx tl (pbF tx tl p).2.1 + 1
        omega
      · rw [if_neg h59] at h
        exact absurd h Bool.false_ne_true
    · rw [if_neg hb] at h
      exact absurd h Bool.false_ne_true
theorem prF_t {tx : Nat → Int} {tl : Nat} : ∀ (m k n : Nat), prF tx tl m k = (true, n) → k < n ∧ (∀ i, k ≤ i → i < n → (poF tx tl (osF tx tl i)).1 = true) ∧ tl ≤ osF tx tl n
  | 0, k, n, h => absurd (congrArg Prod.fst h) Bool.false_ne_true
  | m + 1, k, n, h => by
    rw [prF] at h
    by_cases h1 : (poF tx tl (osF tx tl k)).1 = true
    · rw [if_pos h1] at h
      by_cases h2 : tl ≤ osF tx tl (k + 1)
      · rw [if_pos h2] at h
        have hn : k + 1 = n := congrArg Prod.snd h
        subst hn
        exact ⟨by omega, fun i a b => by rw [show i = k by omega]; exact h1, h2⟩
      · rw [if_neg h2] at h
        obtain ⟨a, b, c⟩ := prF_t m (k + 1) n h
        refine ⟨by omega, fun i c1 c2 => ?_, c⟩
        by_cases hik : i = k
        · rw [hik]
          exact h1
        · exact b i (by omega) c2
    · rw [if_neg h1] at h
      exact absurd (congrArg Prod.fst h) Bool.false_ne_true
theorem rd_f {v tx : Nat → Int} {tl q : Nat} (h : prF tx tl 50 0 = (false, q)) : rdZ v tx tl = (-10 - (q : Int), v) := by
  unfold rdZ
  rw [h]
  exact if_neg Bool.false_ne_true
theorem rd_t {v tx w : Nat → Int} {tl n k : Nat} (h : prF tx tl 50 0 = (true, n)) (h2 : exF tx tl n 0 v = (true, k, w)) : rdZ v tx tl = ((n : Int), w) := by
  unfold rdZ
  rw [h]
  show (if (exF tx tl n 0 v).1 = true then ((n : Int), (exF tx tl n 0 v).2.2) else (-1000 - ((exF tx tl n 0 v).2.1 : Nat), v)) = _
  rw [h2]
  exact if_pos rfl
theorem rd_s {v tx w : Nat → Int} {tl n k : Nat} (h : prF tx tl 50 0 = (true, n)) (h2 : exF tx tl n 0 v = (false, k, w)) : rdZ v tx tl = (-1000 - (k : Int), v) := by
  unfold rdZ
  rw [h]
  show (if (exF tx tl n 0 v).1 = true then ((n : Int), (exF tx tl n 0 v).2.2) else (-1000 - ((exF tx tl n 0 v).2.1 : Nat), v)) = _
  rw [h2]
  exact if_neg Bool.false_ne_true
section MO
variable {L d : Nat} {I K : zI} {v : Nat → Int} {hs : Nat → Nat → Int} {hn : Nat} {ct tx : Nat → Int} {tl : Nat}
theorem m_can {c : Int} {u : Nat → Int} (hA : AL K v) (ho : OKv v) (hc : wn c ≠ 0) (hu : ∀ j, j < wn c → K 148 j = u j) (hr : ∀ j, rng (u j)) : Ev L (d + 4) k_X8_can [vR 137, vI c] K (some (vI (cOb v c u))) K := by
  have h0 := ho.1
  show Go L (d + 4) k_X8_can 0 [some (vR 137), some (vI c)] [] K _
  refine g_l 1 rfl rfl ?_
  rcases wn_in hc with rfl | rfl | rfl | rfl | rfl
  · have e : cOb v 112 u = if v 0 = 8 then -4 else 0 := rfl
    rw [e]
    refine g_ls 44 rfl (by decide) (by decide) ?_
    refine g_l 45 rfl rfl ?_
    refine g_callE rfl (m_many hA) ?_ (hr := rcvM rfl)
    refine g_p 50 rfl rfl ?_
    refine g_ic_ne rfl (by omega) (by omega) (fun g => ?_) (fun g => ?_)
    · refine g_p 59 rfl rfl ?_
      rw [if_neg g]
      exact g_ret rfl rfl ⟨rfl, rfl⟩
    · refine g_p 55 rfl rfl ?_
      refine g_goto rfl ?_
      rw [if_pos (Decidable.not_not.mp g)]
      exact g_ret rfl rfl ⟨rfl, rfl⟩
  · have u0 := hu 0 (by decide)
    refine g_ls 99 rfl (by decide) (by decide) ?_
    refine g_l 100 rfl rfl ?_
    refine g_l 101 rfl rfl ?_
    refine g_fr rfl rfl ⟨⟨by decide, by omega, by decide⟩, by decide⟩ rfl ?_
    refine g_p 105 rfl rfl ?_
    refine g_ia 0 rfl rfl rfl (by omega) ?_
    rw [u0]
    refine g_callE rfl (m_canTake hA ho (hr 0)) ?_ (hr := rcvM rfl)
    exact g_ret rfl rfl ⟨rfl, rfl⟩
  · have u0 := hu 0 (by decide)
    have u1 := hu 1 (by decide)
    refine g_ls 60 rfl (by decide) (by decide) ?_
    refine g_l 61 rfl rfl ?_
    refine g_fr rfl rfl ⟨⟨by decide, by omega, by decide⟩, by decide⟩ rfl ?_
    refine g_p 65 rfl rfl ?_
    refine g_ia 0 rfl rfl rfl (by omega) ?_
    rw [u0]
    refine g_l 67 rfl rfl ?_
    refine g_fr rfl rfl ⟨⟨by decide, by omega, by decide⟩, by decide⟩ rfl ?_
    refine g_p 71 rfl rfl ?_
    refine g_ia 1 rfl rfl rfl (by omega) ?_
    rw [u1]
    refine g_callE rfl (m_canTable (hr 0) (hr 1)) ?_
    exact g_ret rfl rfl ⟨rfl, rfl⟩
  · have u0 := hu 0 (by decide)
    have u1 := hu 1 (by decide)
    have u2 := hu 2 (by decide)
    refine g_ls 76 rfl (by decide) (by decide) ?_
    refine g_l 77 rfl rfl ?_
    refine g_l 78 rfl rfl ?_
    refine g_fr rfl rfl ⟨⟨by decide, by omega, by decide⟩, by decide⟩ rfl ?_
    refine g_p 82 rfl rfl ?_
    refine g_ia 0 rfl rfl rfl (by omega) ?_
    rw [u0]
    refine g_l 84 rfl rfl ?_
    refine g_fr rfl rfl ⟨⟨by decide, by omega, by decide⟩, by decide⟩ rfl ?_
    refine g_p 88 rfl rfl ?_
    refine g_ia 1 rfl rfl rfl (by omega) ?_
    rw [u1]
    refine g_l 90 rfl rfl ?_
    refine g_fr rfl rfl ⟨⟨by decide, by omega, by decide⟩, by decide⟩ rfl ?_
    refine g_p 94 rfl rfl ?_
    refine g_ia 2 rfl rfl rfl (by omega) ?_
    rw [u2]
    refine g_callE rfl (m_canPut hA ho (hr 0) (hr 1) (hr 2)) ?_ (hr := rcvM rfl)
    exact g_ret rfl rfl ⟨rfl, rfl⟩
  · have u0 := hu 0 (by decide)
    have u1 := hu 1 (by decide)
    have u2 := hu 2 (by decide)
    have u3 := hu 3 (by decide)
    refine g_ls 110 rfl (by decide) (by decide) ?_
    refine g_l 111 rfl rfl ?_
    refine g_l 112 rfl rfl ?_
    refine g_fr rfl rfl ⟨⟨by decide, by omega, by decide⟩, by decide⟩ rfl ?_
    refine g_p 116 rfl rfl ?_
    refine g_ia 0 rfl rfl rfl (by omega) ?_
    rw [u0]
    refine g_l 118 rfl rfl ?_
    refine g_fr rfl rfl ⟨⟨by decide, by omega, by decide⟩, by decide⟩ rfl ?_
    refine g_p 122 rfl rfl ?_
    refine g_ia 1 rfl rfl rfl (by omega) ?_
    rw [u1]
    refine g_l 124 rfl rfl ?_
    refine g_fr rfl rfl ⟨⟨by decide, by omega, by decide⟩, by decide⟩ rfl ?_
    refine g_p 128 rfl rfl ?_
    refine g_ia 2 rfl rfl rfl (by omega) ?_
    rw [u2]
    refine g_l 130 rfl rfl ?_
    refine g_fr rfl rfl ⟨⟨by decide, by omega, by decide⟩, by decide⟩ rfl ?_
    refine g_p 134 rfl rfl ?_
    refine g_ia 3 rfl rfl rfl (by omega) ?_
    rw [u3]
    refine g_callE rfl (m_canMake (hr 0) (hr 1) (hr 2) (hr 3)) ?_ (hr := rcvM rfl)
    exact g_ret rfl rfl ⟨rfl, rfl⟩
theorem m_does {c : Int} {u : Nat → Int} (hA : AL K v) (ho : OKv v) (hc : wn c ≠ 0) (hu : ∀ j, j < wn c → K 148 j = u j) (hok : ¬ (ob v c u).1 < 0) : Ct L (d + 6) k_X8_does [vR 137, vI c] K (fun r J => r = none ∧ AL J (ob v c u).2 ∧ ∀ q, q ≠ 138 → q ≠ 141 → J q = K q) := by
  have h0 := ho.1
  have hS := fS_rng ho
  have hf := fN_le ho
  have u0 := hu 0 (by omega)
  show Go L (d + 6) k_X8_does 0 [some (vR 137), some (vI c), none, none, none] [] K _
  refine g_l 1 rfl rfl ?_
  refine g_fr rfl rfl ⟨⟨by decide, by omega, by decide⟩, by decide⟩ rfl ?_
  refine g_p 5 rfl rfl ?_
  refine g_ia 0 rfl rfl rfl (by omega) ?_
  rw [u0]
  refine g_l 7 rfl rfl ?_
  refine g_l 8 rfl rfl ?_
  refine g_fr rfl rfl ⟨⟨by decide, by omega, by decide⟩, by decide⟩ rfl ?_
  refine g_p 12 rfl rfl ?_
  refine g_ia 1 rfl rfl rfl (by omega) ?_
  refine g_l 14 rfl rfl ?_
  refine g_l 15 rfl rfl ?_
  refine g_p 17 rfl rfl ?_
  rcases wn_in hc with rfl | rfl | rfl | rfl | rfl
  · have e : ob v 112 u = sAdd v (u 0) := rfl
    rw [e] at hok ⊢
    unfold sAdd at hok ⊢
    by_cases hv : v 0 < 8
    · rw [if_pos hv]
      refine g_ic_ne rfl (by omega) (by omega) (fun g => ?_) (fun g => ?_)
      · exact absurd rfl g
      · refine g_l 21 rfl rfl ?_
        refine g_l 22 rfl rfl ?_
        refine g_call rfl (m_pieceNow hA ⟨h0.1, hv⟩) (fun r J hJ => ?_) (hr := rcvM rfl)
        obtain ⟨rfl, j1, j2⟩ := hJ
        refine g_goto rfl ?_
        refine g_l 98 rfl rfl ?_
        exact g_ret rfl rfl ⟨rfl, j1, fun q q1 _ => j2 q q1⟩
    · rw [if_neg hv] at hok
      exact absurd (show (-4 : Int) < 0 by decide) hok
  · have e : ob v 120 u = sTake v (u 0) := rfl
    rw [e] at hok ⊢
    unfold sTake at hok ⊢
    by_cases h1 : 0 ≤ u 0 ∧ u 0 < v 9 * v 10
    · rw [if_pos h1] at hok ⊢
      by_cases h2 : v (11 + (u 0).toNat) = -1
      · rw [if_pos h2] at hok
        exact absurd (show (-3 : Int) < 0 by decide) hok
      · rw [if_neg h2]
        have h8 : u 0 < fS v := h1.2
        obtain ⟨pn, hpn⟩ := Int.eq_ofNat_of_zero_le h1.1
        rw [hpn] at h8
        rw [hpn, Int.toNat_natCast] at h2 ⊢
        have h4 := ho.2.2.2.1 pn (by omega)
        refine g_ic_ne rfl (by omega) (by omega) (fun g => ?_) (fun g => ?_)
        · refine g_l 29 rfl rfl ?_
          refine g_p 31 rfl rfl ?_
          refine g_ic_ne rfl (by omega) (by omega) (fun g2 => ?_) (fun g2 => ?_)
          · refine g_l 44 rfl rfl ?_
            refine g_p 46 rfl rfl ?_
            refine g_ic_ne rfl (by omega) (by omega) (fun g3 => ?_) (fun g3 => ?_)
            · refine g_l 65 rfl rfl ?_
              refine g_p 67 rfl rfl ?_
              refine g_ic_ne rfl (by omega) (by omega) (fun g4 => ?_) (fun g4 => ?_)
              · exact absurd rfl g4
              · refine g_l 71 rfl rfl ?_
                refine g_l 72 rfl rfl ?_
                refine g_call rfl (m_takeNow hA (by omega) ⟨by omega, by omega⟩) (fun r J hJ => ?_) (hr := rcvM rfl)
                obtain ⟨rfl, j1, j2⟩ := hJ
                refine g_goto rfl ?_
                refine g_l 98 rfl rfl ?_
                exact g_ret rfl rfl ⟨rfl, j1, fun q q1 _ => j2 q q1⟩
            · exact absurd (by decide) g3
          · exact absurd (by decide) g2
        · exact absurd (by decide) g
    · rw [if_neg h1] at hok
      exact absurd (show (-2 : Int) < 0 by decide) hok
  · have e : ob v 116 u = sTab v (u 0) (u 1) := rfl
    have u1 := hu 1 (by decide)
    rw [u1]
    rw [e] at hok ⊢
    unfold sTab at hok ⊢
    by_cases ht : tsz (u 0) (u 1)
    · rw [if_pos ht]
      refine g_ic_ne rfl (by omega) (by omega) (fun g => ?_) (fun g => ?_)
      · refine g_l 29 rfl rfl ?_
        refine g_p 31 rfl rfl ?_
        refine g_ic_ne rfl (by omega) (by omega) (fun g2 => ?_) (fun g2 => ?_)
        · exact absurd rfl g2
        · refine g_l 35 rfl rfl ?_
          refine g_l 36 rfl rfl ?_
          refine g_l 37 rfl rfl ?_
          refine g_call rfl (m_tableNow hA ho) (fun r J hJ => ?_) (hr := rcvM rfl)
          obtain ⟨rfl, j1, j2⟩ := hJ
          refine g_goto rfl ?_
          refine g_l 98 rfl rfl ?_
          exact g_ret rfl rfl ⟨rfl, j1, fun q q1 _ => j2 q q1⟩
      · exact absurd (by decide) g
    · rw [if_neg ht] at hok
      exact absurd (show (-2 : Int) < 0 by decide) hok
  · have e : ob v 97 u = sPut v (u 0) (u 1) (u 2) := rfl
    have u1 := hu 1 (by decide)
    have u2 := hu 2 (by decide)
    rw [u1]
    rw [e] at hok ⊢
    unfold sPut at hok ⊢
    by_cases h1 : (0 ≤ u 0 ∧ u 0 < v 9 * v 10) ∧ (0 ≤ u 1 ∧ u 1 < v 0) ∧ 0 ≤ u 2 ∧ u 2 < 4
    · rw [if_pos h1] at hok ⊢
      by_cases h2 : v (11 + (u 0).toNat) = -1 ∧ pl (vc v) (v 9 * v 10) (u 1) = -1
      · rw [if_pos h2]
        have h8 : u 0 < fS v := h1.1.2
        obtain ⟨pn, hpn⟩ := Int.eq_ofNat_of_zero_le h1.1.1
        obtain ⟨kn, hkn⟩ := Int.eq_ofNat_of_zero_le h1.2.1.1
        obtain ⟨tn, htn⟩ := Int.eq_ofNat_of_zero_le h1.2.2.1
        rw [hpn] at h8
        rw [hpn, hkn, htn, Int.toNat_natCast]
        refine g_ic_ne rfl (by omega) (by omega) (fun g => ?_) (fun g => ?_)
        · refine g_l 29 rfl rfl ?_
          refine g_p 31 rfl rfl ?_
          refine g_ic_ne rfl (by omega) (by omega) (fun g2 => ?_) (fun g2 => ?_)
          · refine g_l 44 rfl rfl ?_
            refine g_p 46 rfl rfl ?_
            refine g_ic_ne rfl (by omega) (by omega) (fun g3 => ?_) (fun g3 => ?_)
            · exact absurd rfl g3
            · refine g_l 50 rfl rfl ?_
              refine g_l 51 rfl rfl ?_
              refine g_l 52 rfl rfl ?_
              refine g_l 53 rfl rfl ?_
              refine g_fr rfl rfl ⟨⟨by decide, by omega, by decide⟩, by decide⟩ rfl ?_
              refine g_p 57 rfl rfl ?_
              refine g_ia 2 rfl rfl rfl (by omega) ?_
              rw [u2, htn]
              refine g_call rfl (m_putNow hA ho h8 (by omega) (by omega)) (fun r J hJ => ?_) (hr := rcvM rfl)
              obtain ⟨rfl, j1, j2⟩ := hJ
              refine g_goto rfl ?_
              refine g_l 98 rfl rfl ?_
              exact g_ret rfl rfl ⟨rfl, j1, fun q q1 _ => j2 q q1⟩
          · exact absurd (by decide) g2
        · exact absurd (by decide) g
      · rw [if_neg h2] at hok
        exact absurd (show (-3 : Int) < 0 by decide) hok
    · rw [if_neg h1] at hok
      exact absurd (show (-2 : Int) < 0 by decide) hok
  · have e : ob v 109 u = sMk v (u 0) (u 1) (u 2) (u 3) := rfl
    have u1 := hu 1 (by decide)
    have u2 := hu 2 (by decide)
    have u3 := hu 3 (by decide)
    rw [u1]
    rw [e] at hok ⊢
    unfold sMk at hok ⊢
    by_cases hm : mkOK (u 0) (u 1) (u 2) (u 3)
    · rw [if_pos hm]
      obtain ⟨wn1, gn1, e1, e2, w1, g1, n1, n8⟩ := tsz_nat hm.2.1
      have hm1 := hm.1
      have hm3 := hm.2.2
      rw [e1, e2]
      refine g_ic_ne rfl (by omega) (by omega) (fun g => ?_) (fun g => ?_)
      · refine g_l 29 rfl rfl ?_
        refine g_p 31 rfl rfl ?_
        refine g_ic_ne rfl (by omega) (by omega) (fun g2 => ?_) (fun g2 => ?_)
        · refine g_l 44 rfl rfl ?_
          refine g_p 46 rfl rfl ?_
          refine g_ic_ne rfl (by omega) (by omega) (fun g3 => ?_) (fun g3 => ?_)
          · refine g_l 65 rfl rfl ?_
            refine g_p 67 rfl rfl ?_
            refine g_ic_ne rfl (by omega) (by omega) (fun g4 => ?_) (fun g4 => ?_)
            · refine g_l 79 rfl rfl ?_
              refine g_l 80 rfl rfl ?_
              refine g_l 81 rfl rfl ?_
              refine g_l 82 rfl rfl ?_
              refine g_fr rfl rfl ⟨⟨by decide, by omega, by decide⟩, by decide⟩ rfl ?_
              refine g_p 86 rfl rfl ?_
              refine g_ia 2 rfl rfl rfl (by omega) ?_
              rw [u2, e2]
              refine g_l 88 rfl rfl ?_
              refine g_fr rfl rfl ⟨⟨by decide, by omega, by decide⟩, by decide⟩ rfl ?_
              refine g_p 92 rfl rfl ?_
              refine g_ia 3 rfl rfl rfl (by omega) ?_
              rw [u3]
              refine g_call rfl (m_makeNow hA ho hm1 w1 g1 n1 n8 hm3) (fun r J hJ => ?_) (hr := rcvM rfl)
              obtain ⟨rfl, j1, j2⟩ := hJ
              refine g_l 98 rfl rfl ?_
              exact g_ret rfl rfl ⟨rfl, j1, j2⟩
            · exact absurd (by decide) g4
          · exact absurd (by decide) g3
        · exact absurd (by decide) g2
      · exact absurd (by decide) g
    · rw [if_neg hm] at hok
      exact absurd (show (-2 : Int) < 0 by decide) hok
theorem m_order0 {p : Nat} (hT : TM K tx tl) (hp : p ≤ tl) (hs : K 137 13 = p) : Ct L (d + 3) k_X8_readsOrder [vR 137, vI 0] K (fun r M => r = some (vI (if (poF tx tl (sk tx tl p)).1 = true then 1 else 0)) ∧ M 137 13 = ((poF tx tl (sk tx tl p)).2.1 : Nat) ∧ FrT K M) := by
  show Go L (d + 3) k_X8_readsOrder 0 [some (vR 137), some (vI 0), none, none, none] [] K _
  refine m_parse hT hp hs (fun h M m1 m2 => ?_) (fun h M o4 m1 m2 _ => ?_)
  · rw [h]
    exact ⟨rfl, m1, m2⟩
  · refine g_l 96 rfl rfl ?_
    refine g_if_eq rfl (by omega) (fun g => ?_) (fun g => ?_)
    · refine g_p 129 rfl rfl ?_
      rw [if_pos h]
      exact g_retb rfl rfl (Or.inr rfl) ⟨rfl, m1, m2⟩
    · exact absurd rfl g
/-- what an order may change -/
def FrE (K M : zI) : Prop := (∀ q, q ≠ 137 → q ≠ 138 → q ≠ 141 → q ≠ 148 → M q = K q) ∧ ∀ j, j ≠ 13 → j ≠ 15 → M 137 j = K 137 j
theorem FrE.tr {I J K : zI} (h1 : FrE I J) (h2 : FrE J K) : FrE I K := ⟨fun q a b c e => (h2.1 q a b c e).trans (h1.1 q a b c e), fun j a b => (h2.2 j a b).trans (h1.2 j a b)⟩
theorem FrT.e {K M : zI} (h : FrT K M) : FrE K M := ⟨fun q a _ _ b => h.1 q a b, fun j a _ => h.2 j a⟩
theorem FrE.tm {K M : zI} (h : FrE K M) (hT : TM K tx tl) : TM M tx tl := ⟨by rw [h.2 12 (by omega) (by omega)]; exact hT.1, hT.2.1, fun j hj => by rw [h.1 147 (by omega) (by omega) (by omega) (by omega)]; exact hT.2.2 j hj⟩
theorem m_order1 {p : Nat} (hT : TM K tx tl) (hp : p ≤ tl) (hs : K 137 13 = p) (hA : AL K v) (ho : OKv v) (hok : (poF tx tl (sk tx tl p)).1 = true) : Ct L (d + 7) k_X8_readsOrder [vR 137, vI 1] K (fun r M => r = some (vI 1) ∧ M 137 13 = ((poF tx tl (sk tx tl p)).2.1 : Nat) ∧ FrE K M ∧ ((ob v (bh tx tl (sk tx tl p)) (poF tx tl (sk tx tl p)).2.2).1 < 0 ∧ M 137 15 = 1 ∧ AL M v ∨ ¬ (ob v (bh tx tl (sk tx tl p)) (poF tx tl (sk tx tl p)).2.2).1 < 0 ∧ M 137 15 = 0 ∧ AL M (ob v (bh tx tl (sk tx tl p)) (poF tx tl (sk tx tl p)).2.2).2)) := by
  show Go L (d + 7) k_X8_readsOrder 0 [some (vR 137), some (vI 1), none, none, none] [] K _
  refine m_parse (d := d + 4) hT hp hs (fun h M m1 m2 => absurd (hok.symm.trans h) (by decide)) (fun h M o4 m1 m2 m3 => ?_)
  have hval := poF_val (tx := tx) (tl := tl) (p := sk tx tl p)
  have hwn : wn (bh tx tl (sk tx tl p)) ≠ 0 := fun z => by
    unfold poF at h
    rw [if_pos z] at h
    exact absurd h Bool.false_ne_true
  have hAM : AL M v := fun k hk => by rw [m2.1 138 (by omega) (by omega)]; exact hA k hk
  generalize poF tx tl (sk tx tl p) = P at m1 m3 hval ⊢
  generalize bh tx tl (sk tx tl p) = c at hwn m3 ⊢
  have hco := cOb_ob (u := P.2.2) (c := c) ho
  refine g_l 96 rfl rfl ?_
  refine g_if_eq rfl (by omega) (fun g => ?_) (fun g => ?_)
  · exact absurd g (by decide)
  · refine g_l 100 rfl rfl ?_
    refine g_l 101 rfl rfl ?_
    refine g_l 102 rfl rfl ?_
    refine g_callE rfl (m_can hAM ho hwn m3 hval) ?_ (hr := rcvM rfl)
    refine g_if_ge rfl (by omega) (fun g2 => ?_) (fun g2 => ?_)
    · refine g_p 113 rfl rfl ?_
      refine g_wb rfl rfl ⟨⟨by decide, by omega, by decide⟩, by decide⟩ (Or.inl rfl) ?_
      refine g_l 117 rfl rfl ?_
      refine g_fi rfl rfl ⟨⟨by decide, by omega, by decide⟩, by decide⟩ ?_
      rw [zup2_at]
      refine g_if_ne rfl (by omega) (fun g3 => ?_) (fun g3 => ?_)
      · exact absurd rfl g3
      · have hno : ¬ (ob v c P.2.2).1 < 0 := fun z => absurd (hco.1.mpr z) (by omega)
        refine g_l 124 rfl rfl ?_
        refine g_l 125 rfl rfl ?_
        refine g_call rfl (m_does (fun k hk => by rw [zup2_ne (by omega)]; exact hAM k hk) ho hwn (fun j hj => by rw [zup2_ne (by omega)]; exact m3 j hj) hno) (fun r J hJ => ?_) (hr := rcvM rfl)
        obtain ⟨rfl, j1, j2⟩ := hJ
        refine g_p 129 rfl rfl ?_
        refine g_retb rfl rfl (Or.inr rfl) ⟨rfl, ?_, ⟨fun q q1 q2 q3 q4 => ?_, fun j a b => ?_⟩, Or.inr ⟨hno, ?_, j1⟩⟩
        · rw [j2 137 (by omega) (by omega), zup2_an (by omega)]
          exact m1
        · rw [j2 q q2 q3, zup2_ne q1]
          exact m2.1 q q1 q4
        · rw [j2 137 (by omega) (by omega), zup2_an b]
          exact m2.2 j a
        · rw [j2 137 (by omega) (by omega), zup2_at]
    · refine g_p 109 rfl rfl ?_
      refine g_goto rfl ?_
      refine g_wb rfl rfl ⟨⟨by decide, by omega, by decide⟩, by decide⟩ (Or.inr rfl) ?_
      refine g_l 117 rfl rfl ?_
      refine g_fi rfl rfl ⟨⟨by decide, by omega, by decide⟩, by decide⟩ ?_
      rw [zup2_at]
      refine g_if_ne rfl (by omega) (fun g3 => ?_) (fun g3 => ?_)
      · refine g_p 129 rfl rfl ?_
        refine g_retb rfl rfl (Or.inr rfl) ⟨rfl, ?_, ⟨fun q q1 q2 q3 q4 => ?_, fun j a b => ?_⟩, Or.inl ⟨hco.1.mp (by omega), zup2_at, fun k hk => by rw [zup2_ne (by omega)]; exact hAM k hk⟩⟩
        · rw [zup2_an (by omega)]
          exact m1
        · rw [zup2_ne q1]
          exact m2.1 q q1 q4
        · rw [zup2_an b]
          exact m2.2 j a
      · exact absurd (show ¬ (1 : Int) = 0 by decide) g3
end MO
