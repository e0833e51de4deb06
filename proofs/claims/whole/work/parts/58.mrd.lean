/-! EdgeJoinModel: reads -/
theorem prF_s (tx : Nat → Int) (tl m k : Nat) : prF tx tl (m + 1) k = if (poF tx tl (osF tx tl k)).1 = true then (if tl ≤ osF tx tl (k + 1) then (true, k + 1) else prF tx tl m (k + 1)) else (false, (poF tx tl (osF tx tl k)).2.1) := rfl
section MR2
variable {L d : Nat} {I : zI} {v : Nat → Int} {hs : Nat → Nat → Int} {hn : Nat} {ct tx : Nat → Int} {tl : Nat}
theorem MR.w {J : zI} (h : MR I hs hn ct tx tl) (h2 : J 137 2 = I 137 2) (h12 : J 137 12 = I 137 12) (hj : ∀ q, (q = 139 ∨ q = 140 ∨ q = 147) → J q = I q) : MR J hs hn ct tx tl := h.fr h2 h12 hj
/-- behind a good first reading: n orders -/
theorem m_second {n : Nat} {o2 : Option zV} {M0 : zI} (h : MI I v hs hn ct tx tl) (hF0 : FrT I M0) (hpr : prF tx tl 50 0 = (true, n)) (hn50 : n ≤ 50) : Go L (d + 8) k_X8_reads 44 [some (vR 137), some (vI 1), o2] [] M0 (PM I (rdZ v tx tl).1 (rdZ v tx tl).2 (mhs (rdZ v tx tl).1 v hs hn) (mhn (rdZ v tx tl).1 hn) ct tx tl) := by
  obtain ⟨p1, p2, p3⟩ := prF_t 50 0 n hpr
  have hT0 : TM I tx tl := h.2.2.2.2
  have hEI : FrE I M0 := hF0.e
  have exec : ∀ (m k p : Nat) (w : Nat → Int) (M : zI) (o1 : Option zV), k + m = n → AL M w → OKv w → (∀ j, j < 19 → M 149 j = v j) → M 137 13 = (p : Int) → p ≤ tl → sk tx tl p = osF tx tl k → (∀ q, q ≠ 137 → q ≠ 138 → q ≠ 141 → q ≠ 148 → q ≠ 149 → M q = I q) → (∀ j, j ≠ 13 → j ≠ 15 → M 137 j = I 137 j) → exF tx tl m k w = exF tx tl n 0 v → Go L (d + 8) k_X8_reads 77 [some (vR 137), o1, some (vI k)] [] M (PM I (rdZ v tx tl).1 (rdZ v tx tl).2 (mhs (rdZ v tx tl).1 v hs hn) (mhn (rdZ v tx tl).1 hn) ct tx tl) := by
    intro m
    induction m with
    | zero =>
      intro k p w M o1 hk hA hok hB hsp hp hsk hF hF2 he
      have hk : k = n := by omega
      subst hk
      have hz := rd_t hpr he.symm
      have hTM : TM M tx tl := ⟨by rw [hF2 12 (by omega) (by omega)]; exact hT0.1, hT0.2.1, fun j hj => by rw [hF 147 (by omega) (by omega) (by omega) (by omega) (by omega)]; exact hT0.2.2 j hj⟩
      have hbh : bh tx tl (osF tx tl k) = -1 := if_neg (by omega)
      refine g_l 78 rfl rfl ?_
      refine g_call rfl (m_here hTM hp hsp) (fun r N hN => ?_) (hr := rcvM rfl)
      obtain ⟨rfl, n1, n2⟩ := hN
      rw [hsk, hbh]
      refine g_p 82 rfl rfl ?_
      refine g_ic_eq rfl (by omega) (by omega) (fun g => ?_) (fun g => ?_)
      · refine g_l 115 rfl rfl ?_
        refine g_call rfl m_swaps (fun r A hAa => ?_) (hr := rcvM rfl)
        obtain ⟨rfl, a1, a2, a3⟩ := hAa
        have hMIA : MI A v hs hn ct tx tl := by
          refine ⟨fun j hj => ?_, h.2.1, h.2.2.fr ?_ ?_ (fun q hq => ?_)⟩
          · rw [a1 j hj, n2.1 149 (by omega)]
            exact hB j hj
          · rw [a3 137 (by omega) (by omega), n2.2 2 (by omega)]
            exact hF2 2 (by omega) (by omega)
          · rw [a3 137 (by omega) (by omega), n2.2 12 (by omega)]
            exact hF2 12 (by omega) (by omega)
          · rw [a3 q (by omega) (by omega), n2.1 q (by omega)]
            exact hF q (by omega) (by omega) (by omega) (by omega) (by omega)
        have hA149 : ∀ j, j < 19 → A 149 j = w j := fun j hj => by
          rw [a2 j hj, n2.1 138 (by omega)]
          exact hA j hj
        refine g_l 119 rfl rfl ?_
        refine g_call rfl (m_keep2 hMIA) (fun r B hB2 => ?_) (hr := rcvM rfl)
        obtain ⟨rfl, b1, b2⟩ := hB2
        refine g_l 123 rfl rfl ?_
        refine g_call rfl m_swaps (fun r C hC => ?_) (hr := rcvM rfl)
        obtain ⟨rfl, c1, c2, c3⟩ := hC
        refine g_l 127 rfl rfl ?_
        rw [hz]
        refine g_ret rfl rfl ⟨rfl, ⟨fun j hj => ?_, hok, ?_⟩, fun q hq => ?_⟩
        · rw [c1 j hj, b2 149 (by omega) (by omega)]
          exact hA149 j hj
        · have e1 : mhs (k : Int) v hs hn = hpush hs hn v := if_neg (by omega)
          have e2 : mhn (k : Int) hn = (if hn < 6 then hn + 1 else 6) := if_neg (by omega)
          show MR C (mhs (k : Int) v hs hn) (mhn (k : Int) hn) ct tx tl
          rw [e1, e2]
          exact b1.2.2.fr (by rw [c3 137 (by omega) (by omega)]) (by rw [c3 137 (by omega) (by omega)]) (fun q hq => c3 q (by omega) (by omega))
        · rw [c3 q (by omega) (by omega), b2 q (by omega) (by omega), a3 q (by omega) (by omega), n2.1 q (by omega)]
          exact hF q (by omega) (by omega) (by omega) (by omega) (by omega)
      · exact absurd rfl g
    | succ m ih =>
      intro k p w M o1 hk hA hok hB hsp hp hsk hF hF2 he
      have hTM : TM M tx tl := ⟨by rw [hF2 12 (by omega) (by omega)]; exact hT0.1, hT0.2.1, fun j hj => by rw [hF 147 (by omega) (by omega) (by omega) (by omega) (by omega)]; exact hT0.2.2 j hj⟩
      have hP := p2 k (by omega) (by omega)
      have hwn : wn (bh tx tl (osF tx tl k)) ≠ 0 := fun z => by
        unfold poF at hP
        rw [if_pos z] at hP
        exact absurd hP Bool.false_ne_true
      have hlt := wn_lt hwn
      have hb0 := bhM_0 hTM hlt
      have hb1 := bhM_rng hTM (osF tx tl k)
      have hss : sk tx tl (osF tx tl k) = osF tx tl k := by rw [← hsk]; exact sk_sk hp
      have hrg := poF_rng (tx := tx) (osF_le (tx := tx) (tl := tl) k)
      have hval := poF_val (tx := tx) (tl := tl) (p := osF tx tl k)
      refine g_l 78 rfl rfl ?_
      refine g_call rfl (m_here hTM hp hsp) (fun r N hN => ?_) (hr := rcvM rfl)
      obtain ⟨rfl, n1, n2⟩ := hN
      rw [hsk]
      rw [hsk] at n1
      refine g_p 82 rfl rfl ?_
      refine g_ic_eq rfl (by omega) (by omega) (fun g => ?_) (fun g => ?_)
      · exact absurd g (by omega)
      · refine g_l 86 rfl rfl ?_
        refine g_p 87 rfl rfl ?_
        have hAN : AL N w := fun j hj => by rw [n2.1 138 (by omega)]; exact hA j hj
        refine g_call rfl (m_order1 (d := d) (hTM.fr n2.t) (by omega) n1 hAN hok (by rw [hss]; exact hP)) (fun r S hS => ?_) (hr := rcvM rfl)
        rw [hss] at hS
        obtain ⟨rfl, s1, s2, s3⟩ := hS
        have sF : ∀ q, q ≠ 137 → q ≠ 138 → q ≠ 141 → q ≠ 148 → q ≠ 149 → S q = I q := fun q q1 q2 q3 q4 q5 => by
          rw [s2.1 q q1 q2 q3 q4, n2.1 q q1]
          exact hF q q1 q2 q3 q4 q5
        have sF2 : ∀ j, j ≠ 13 → j ≠ 15 → S 137 j = I 137 j := fun j q1 q2 => by
          rw [s2.2 j q1 q2, n2.2 j q1]
          exact hF2 j q1 q2
        have sB : ∀ j, j < 19 → S 149 j = v j := fun j hj => by
          rw [s2.1 149 (by omega) (by omega) (by omega) (by omega), n2.1 149 (by omega)]
          exact hB j hj
        rw [exF] at he
        refine g_l 91 rfl rfl ?_
        refine g_l 92 rfl rfl ?_
        refine g_fi rfl rfl ⟨⟨by decide, by omega, by decide⟩, by decide⟩ ?_
        rcases s3 with ⟨t1, t2, t3⟩ | ⟨t1, t2, t3⟩
        · rw [if_pos t1] at he
          have hz := rd_s hpr he.symm
          rw [t2]
          refine g_if_eq rfl (by omega) (fun g2 => ?_) (fun g2 => ?_)
          · exact absurd g2 (by decide)
          · refine g_l 99 rfl rfl ?_
            refine g_call rfl m_swaps (fun r C hC => ?_) (hr := rcvM rfl)
            obtain ⟨rfl, c1, c2, c3⟩ := hC
            refine g_p 105 rfl rfl ?_
            refine g_l 106 rfl rfl ?_
            refine g_p 107 rfl rfl ?_
            rw [hz]
            refine g_ret rfl rfl ⟨rfl, ⟨fun j hj => by rw [c1 j hj]; exact sB j hj, h.2.1, ?_⟩, fun q hq => by rw [c3 q (by omega) (by omega)]; exact sF q (by omega) (by omega) (by omega) (by omega) (by omega)⟩
            have e1 : mhs (-1000 - (k : Int)) v hs hn = hs := if_pos (by omega)
            have e2 : mhn (-1000 - (k : Int)) hn = hn := if_pos (by omega)
            show MR C (mhs (-1000 - (k : Int)) v hs hn) (mhn (-1000 - (k : Int)) hn) ct tx tl
            rw [e1, e2]
            exact h.2.2.fr (by rw [c3 137 (by omega) (by omega)]; exact sF2 2 (by omega) (by omega)) (by rw [c3 137 (by omega) (by omega)]; exact sF2 12 (by omega) (by omega)) (fun q hq => by rw [c3 q (by omega) (by omega)]; exact sF q (by omega) (by omega) (by omega) (by omega) (by omega))
        · rw [if_neg t1] at he
          rw [t2]
          refine g_if_eq rfl (by omega) (fun g2 => ?_) (fun g2 => ?_)
          · refine g_l 111 rfl rfl ?_
            refine g_goto rfl ?_
            exact ih (k + 1) _ _ S _ (by omega) t3 (ob_ok hok hval) sB s1 hrg.2 rfl sF sF2 he
          · exact absurd rfl g2
  have copy : ∀ (m k : Nat) (M : zI), k + m = 19 → (∀ j, j < k → M 149 j = v j) → (∀ q, q ≠ 149 → M q = M0 q) → Go L (d + 8) k_X8_reads 46 [some (vR 137), some (vI 1), some (vI k)] [] M (PM I (rdZ v tx tl).1 (rdZ v tx tl).2 (mhs (rdZ v tx tl).1 v hs hn) (mhn (rdZ v tx tl).1 hn) ct tx tl) := by
    intro m
    induction m with
    | zero =>
      intro k M hk k1 k2
      refine g_l 47 rfl rfl ?_
      refine g_p 49 rfl rfl ?_
      refine g_ic_ge rfl (by omega) (by omega) (fun g => ?_) (fun g => ?_)
      · refine g_p 71 rfl rfl ?_
        refine g_l 72 rfl rfl ?_
        refine g_l 73 rfl rfl ?_
        refine g_p 74 rfl rfl ?_
        refine g_wi rfl rfl ⟨⟨by decide, by omega, by decide⟩, by decide⟩ ?_
        refine exec n 0 0 v _ _ (by omega) (fun j hj => ?_) h.2.1 (fun j hj => ?_) (by rw [zup2_at]; rfl) (Nat.zero_le _) rfl (fun q q1 q2 q3 q4 q5 => ?_) (fun j q1 q2 => ?_) rfl
        · rw [zup2_ne (by omega), k2 138 (by omega), hF0.1 138 (by omega) (by omega)]
          exact h.1 j hj
        · rw [zup2_ne (by omega)]
          exact k1 j (by omega)
        · rw [zup2_ne q1, k2 q q5]
          exact hF0.1 q q1 q4
        · rw [zup2_an q1, k2 137 (by omega)]
          exact hF0.2 j q1
      · exact absurd g (by omega)
    | succ m ih =>
      intro k M hk k1 k2
      refine g_l 47 rfl rfl ?_
      refine g_p 49 rfl rfl ?_
      refine g_ic_ge rfl (by omega) (by omega) (fun g => ?_) (fun g => ?_)
      · exact absurd g (by omega)
      · refine g_l 53 rfl rfl ?_
        refine g_fr rfl rfl ⟨⟨by decide, by omega, by decide⟩, by decide⟩ rfl ?_
        refine g_l 57 rfl rfl ?_
        refine g_l 58 rfl rfl ?_
        refine g_fr rfl rfl ⟨⟨by decide, by omega, by decide⟩, by decide⟩ rfl ?_
        refine g_l 62 rfl rfl ?_
        refine g_ia k rfl rfl rfl (by omega) ?_
        rw [k2 138 (by omega), hF0.1 138 (by omega) (by omega), h.1 k (by omega)]
        refine g_ias k rfl rfl (by omega) rfl (by omega) ?_
        refine g_l 67 rfl rfl ?_
        refine g_goto rfl ?_
        refine ih (k + 1) _ (by omega) (fun j hj => ?_) (fun q hq => by rw [zup2_ne hq]; exact k2 q hq)
        by_cases hjk : j = k
        · rw [hjk, zup2_at]
        · rw [zup2_an hjk]
          exact k1 j (by omega)
  refine g_p 45 rfl rfl ?_
  refine g_l 46 rfl rfl ?_
  exact copy 19 0 M0 (by omega) (fun j hj => absurd hj (by omega)) (fun _ _ => rfl)
theorem m_reads (h : MI I v hs hn ct tx tl) : Ct L (d + 8) k_X8_reads [vR 137] I (PM I (rdZ v tx tl).1 (rdZ v tx tl).2 (mhs (rdZ v tx tl).1 v hs hn) (mhn (rdZ v tx tl).1 hn) ct tx tl) := by
  have hT0 : TM I tx tl := h.2.2.2.2
  have h150 := hT0.2.1
  have at11 : ∀ (m k : Nat) (M : zI), k + m = 49 → 3 * k ≤ osF tx tl k → prF tx tl 50 0 = prF tx tl (m + 1) k → FrT I M → M 137 13 = ((poF tx tl (osF tx tl k)).2.1 : Nat) → Go L (d + 8) k_X8_reads 11 [some (vR 137), some (vI (if (poF tx tl (osF tx tl k)).1 = true then 1 else 0)), none] [] M (PM I (rdZ v tx tl).1 (rdZ v tx tl).2 (mhs (rdZ v tx tl).1 v hs hn) (mhn (rdZ v tx tl).1 hn) ct tx tl) := by
    intro m
    induction m with
    | zero =>
      intro k M hk h3 hpr hF hsp
      have hrg := poF_rng (tx := tx) (osF_le (tx := tx) (tl := tl) k)
      have hTM := hT0.fr hF
      have hpr := hpr.trans (prF_s tx tl 0 k)
      by_cases hP : (poF tx tl (osF tx tl k)).1 = true
      · rw [if_pos hP] at hpr ⊢
        have h3p := poF_3 hP
        have hsk : osF tx tl (k + 1) = sk tx tl (poF tx tl (osF tx tl k)).2.1 := rfl
        have hskr := sk_rng (tx := tx) hrg.2
        rw [← hsk] at hskr
        have hend : tl ≤ osF tx tl (k + 1) := by omega
        rw [if_pos hend] at hpr
        have hbh : bh tx tl (osF tx tl (k + 1)) = -1 := if_neg (by omega)
        refine g_l 12 rfl rfl ?_
        refine g_if_eq rfl (by omega) (fun g => ?_) (fun g => ?_)
        · exact absurd g (by decide)
        · refine g_l 16 rfl rfl ?_
          refine g_call rfl (m_here hTM hrg.2 hsp) (fun r N hN => ?_) (hr := rcvM rfl)
          obtain ⟨rfl, n1, n2⟩ := hN
          rw [← hsk, hbh]
          refine g_p 20 rfl rfl ?_
          refine g_ic_eq rfl (by omega) (by omega) (fun g2 => ?_) (fun g2 => ?_)
          · refine g_l 33 rfl rfl ?_
            refine g_if_ne rfl (by omega) (fun g3 => ?_) (fun g3 => ?_)
            · exact m_second h (hF.tr n2.t) hpr (by omega)
            · exact absurd (show ¬ (1 : Int) = 0 by decide) g3
          · exact absurd rfl g2
      · rw [if_neg hP] at hpr ⊢
        have hz := rd_f (v := v) hpr
        refine g_l 12 rfl rfl ?_
        refine g_if_eq rfl (by omega) (fun g => ?_) (fun g => ?_)
        · refine g_l 33 rfl rfl ?_
          refine g_if_ne rfl (by omega) (fun g3 => ?_) (fun g3 => ?_)
          · exact absurd rfl g3
          · refine g_p 38 rfl rfl ?_
            refine g_l 39 rfl rfl ?_
            refine g_fi rfl rfl ⟨⟨by decide, by omega, by decide⟩, by decide⟩ ?_
            rw [hsp]
            refine g_p 43 rfl rfl ?_
            rw [hz]
            refine g_ret rfl rfl ⟨rfl, ⟨fun j hj => by rw [hF.1 138 (by omega) (by omega)]; exact h.1 j hj, h.2.1, ?_⟩, fun q hq => hF.1 q (by omega) (by omega)⟩
            have e1 : mhs (-10 - (((poF tx tl (osF tx tl k)).2.1 : Nat) : Int)) v hs hn = hs := if_pos (by omega)
            have e2 : mhn (-10 - (((poF tx tl (osF tx tl k)).2.1 : Nat) : Int)) hn = hn := if_pos (by omega)
            show MR M (mhs (-10 - (((poF tx tl (osF tx tl k)).2.1 : Nat) : Int)) v hs hn) (mhn (-10 - (((poF tx tl (osF tx tl k)).2.1 : Nat) : Int)) hn) ct tx tl
            rw [e1, e2]
            exact h.2.2.fr (hF.2 2 (by omega)) (hF.2 12 (by omega)) (fun q hq => hF.1 q (by omega) (by omega))
        · exact absurd rfl g
    | succ m ih =>
      intro k M hk h3 hpr hF hsp
      have hrg := poF_rng (tx := tx) (osF_le (tx := tx) (tl := tl) k)
      have hTM := hT0.fr hF
      have hpr := hpr.trans (prF_s tx tl (m + 1) k)
      by_cases hP : (poF tx tl (osF tx tl k)).1 = true
      · rw [if_pos hP] at hpr ⊢
        have h3p := poF_3 hP
        have hsk : osF tx tl (k + 1) = sk tx tl (poF tx tl (osF tx tl k)).2.1 := rfl
        have hskr := sk_rng (tx := tx) hrg.2
        have hss : sk tx tl (osF tx tl (k + 1)) = osF tx tl (k + 1) := by rw [hsk]; exact sk_sk hrg.2
        rw [← hsk] at hskr
        have hb1 := bhM_rng hTM (osF tx tl (k + 1))
        refine g_l 12 rfl rfl ?_
        refine g_if_eq rfl (by omega) (fun g => ?_) (fun g => ?_)
        · exact absurd g (by decide)
        · refine g_l 16 rfl rfl ?_
          refine g_call rfl (m_here hTM hrg.2 hsp) (fun r N hN => ?_) (hr := rcvM rfl)
          obtain ⟨rfl, n1, n2⟩ := hN
          rw [← hsk]
          rw [← hsk] at n1
          refine g_p 20 rfl rfl ?_
          refine g_ic_eq rfl (by omega) (by omega) (fun g2 => ?_) (fun g2 => ?_)
          · have hend : tl ≤ osF tx tl (k + 1) := by
              by_cases hlt : osF tx tl (k + 1) < tl
              · have := bhM_0 hTM hlt
                omega
              · omega
            rw [if_pos hend] at hpr
            refine g_l 33 rfl rfl ?_
            refine g_if_ne rfl (by omega) (fun g3 => ?_) (fun g3 => ?_)
            · exact m_second h (hF.tr n2.t) hpr (by omega)
            · exact absurd (show ¬ (1 : Int) = 0 by decide) g3
          · have hlt : ¬ tl ≤ osF tx tl (k + 1) := fun z => g2 (if_neg (by omega))
            rw [if_neg hlt] at hpr
            refine g_l 24 rfl rfl ?_
            refine g_p 25 rfl rfl ?_
            refine g_call rfl (m_order0 (d := d + 4) (hTM.fr n2.t) hskr.2 n1) (fun r S hS => ?_) (hr := rcvM rfl)
            rw [hss] at hS
            obtain ⟨rfl, s1, s2⟩ := hS
            refine g_l 29 rfl rfl ?_
            refine g_goto rfl ?_
            exact ih (k + 1) S (by omega) (by omega) hpr ((hF.tr n2.t).tr s2) s1
      · rw [if_neg hP] at hpr ⊢
        have hz := rd_f (v := v) hpr
        refine g_l 12 rfl rfl ?_
        refine g_if_eq rfl (by omega) (fun g => ?_) (fun g => ?_)
        · refine g_l 33 rfl rfl ?_
          refine g_if_ne rfl (by omega) (fun g3 => ?_) (fun g3 => ?_)
          · exact absurd rfl g3
          · refine g_p 38 rfl rfl ?_
            refine g_l 39 rfl rfl ?_
            refine g_fi rfl rfl ⟨⟨by decide, by omega, by decide⟩, by decide⟩ ?_
            rw [hsp]
            refine g_p 43 rfl rfl ?_
            rw [hz]
            refine g_ret rfl rfl ⟨rfl, ⟨fun j hj => by rw [hF.1 138 (by omega) (by omega)]; exact h.1 j hj, h.2.1, ?_⟩, fun q hq => hF.1 q (by omega) (by omega)⟩
            have e1 : mhs (-10 - (((poF tx tl (osF tx tl k)).2.1 : Nat) : Int)) v hs hn = hs := if_pos (by omega)
            have e2 : mhn (-10 - (((poF tx tl (osF tx tl k)).2.1 : Nat) : Int)) hn = hn := if_pos (by omega)
            show MR M (mhs (-10 - (((poF tx tl (osF tx tl k)).2.1 : Nat) : Int)) v hs hn) (mhn (-10 - (((poF tx tl (osF tx tl k)).2.1 : Nat) : Int)) hn) ct tx tl
            rw [e1, e2]
            exact h.2.2.fr (hF.2 2 (by omega)) (hF.2 12 (by omega)) (fun q hq => hF.1 q (by omega) (by omega))
        · exact absurd rfl g
  show Go L (d + 8) k_X8_reads 0 [some (vR 137), none, none] [] I _
  refine g_l 1 rfl rfl ?_
  refine g_p 2 rfl rfl ?_
  refine g_wi rfl rfl ⟨⟨by decide, by omega, by decide⟩, by decide⟩ ?_
  refine g_l 6 rfl rfl ?_
  refine g_p 7 rfl rfl ?_
  have f1 : FrT I (zup2 I 137 13 0) := FrS.up.t
  refine g_call rfl (m_order0 (p := 0) (d := d + 4) (hT0.fr f1) (Nat.zero_le _) (by rw [zup2_at]; rfl)) (fun r S hS => ?_) (hr := rcvM rfl)
  have e0 : sk tx tl 0 = osF tx tl 0 := rfl
  rw [e0] at hS
  obtain ⟨rfl, s1, s2⟩ := hS
  refine g_l 11 rfl rfl ?_
  exact at11 49 0 S (by omega) (by omega) rfl (f1.tr s2) s1
end MR2
