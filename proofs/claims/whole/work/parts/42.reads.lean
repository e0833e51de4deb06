/-! EdgeJoin: reads, digest -/
theorem nmF_val {tx : Nat → Int} {tl : Nat} : ∀ (m p : Nat) (x : Int), 0 ≤ x → 0 ≤ (nmF tx tl m p x).2 ∧ (nmF tx tl m p x).2 + 1 ≤ (x + 1) * 10 ^ m
  | 0, p, x, h => by
    show 0 ≤ x ∧ x + 1 ≤ (x + 1) * 10 ^ 0
    rw [Int.pow_zero]
    omega
  | m + 1, p, x, h => by
    have hp : (0 : Int) ≤ 10 ^ m := Int.pow_nonneg (by decide)
    unfold nmF
    split
    · rename_i hd
      have ih := nmF_val (tx := tx) (tl := tl) m (p + 1) (10 * x + bh tx tl p - 48) (by omega)
      have h1 : (10 * x + bh tx tl p - 48 + 1) * 10 ^ m ≤ (10 * (x + 1)) * 10 ^ m := Int.mul_le_mul_of_nonneg_right (by omega) hp
      have h2 : (10 * (x + 1)) * (10 : Int) ^ m = (x + 1) * 10 ^ (m + 1) := by
        rw [Int.pow_succ, Int.mul_comm 10 (x + 1), Int.mul_assoc, Int.mul_comm 10]
      omega
    · show 0 ≤ x ∧ x + 1 ≤ (x + 1) * 10 ^ (m + 1)
      have h1 : (1 : Int) ≤ 10 ^ (m + 1) := by
        have : (0 : Int) < 10 ^ (m + 1) := Int.pow_pos (by decide)
        omega
      have h2 := Int.mul_le_mul_of_nonneg_left h1 (show 0 ≤ x + 1 by omega)
      omega
theorem pnF_val {tx : Nat → Int} {tl : Nat} : ∀ (m i p : Nat) (u : Nat → Int), (∀ j, rng (u j)) → ∀ j, rng ((pnF tx tl m i p u).2.2 j)
  | 0, i, p, u, h => h
  | m + 1, i, p, u, h => by
    unfold pnF
    split
    · exact h
    · refine pnF_val m (i + 1) _ _ (fun j => ?_)
      have := nmF_val (tx := tx) (tl := tl) 6 (sk tx tl p) 0 (by omega)
      unfold zup
      split
      · omega
      · exact h j
theorem pcF_val {tx : Nat → Int} {tl : Nat} : ∀ (m i p : Nat) (x : Int), rng x → rng (pcF tx tl m i p x).2.2
  | 0, i, p, x, h => h
  | m + 1, i, p, x, h => by
    unfold pcF
    split
    · exact pcF_val m (i + 1) _ _ (zor_rng _ _)
    · exact h
theorem poF_val {tx : Nat → Int} {tl p : Nat} : ∀ j, rng ((poF tx tl p).2.2 j) := by
  have hb : ∀ j, rng ((pbF tx tl p).2.2 j) := by
    unfold pbF
    split
    · intro j
      exact pcF_val 16 0 _ 0 (by decide)
    · exact pnF_val _ 0 _ _ (fun j => by decide)
  unfold poF
  split
  · intro j
    show rng 0
    decide
  · split
    · split <;> exact hb
    · exact hb
/-- what an order does -/
def ob (v : Nat → Int) (c : Int) (u : Nat → Int) : Int × (Nat → Int) := if c = 112 then sAdd v (u 0) else if c = 116 then sTab v (u 0) (u 1) else if c = 97 then sPut v (u 0) (u 1) (u 2) else if c = 120 then sTake v (u 0) else sMk v (u 0) (u 1) (u 2) (u 3)
def exF (tx : Nat → Int) (tl : Nat) : Nat → Nat → (Nat → Int) → Bool × Nat × (Nat → Int)
  | 0, k, v => (true, k, v)
  | m + 1, k, v => if (ob v (bh tx tl (osF tx tl k)) (poF tx tl (osF tx tl k)).2.2).1 < 0 then (false, k, v) else exF tx tl m (k + 1) (ob v (bh tx tl (osF tx tl k)) (poF tx tl (osF tx tl k)).2.2).2
def rdZ (v tx : Nat → Int) (tl : Nat) : Int × (Nat → Int) := if (prF tx tl 50 0).1 = true then (if (exF tx tl (prF tx tl 50 0).2 0 v).1 = true then (((prF tx tl 50 0).2 : Nat), (exF tx tl (prF tx tl 50 0).2 0 v).2.2) else (-1000 - ((exF tx tl (prF tx tl 50 0).2 0 v).2.1 : Nat), v)) else (-10 - ((prF tx tl 50 0).2 : Nat), v)
theorem wn_in {c : Int} (h : wn c ≠ 0) : c = 112 ∨ c = 120 ∨ c = 116 ∨ c = 97 ∨ c = 109 := by
  unfold wn at h
  by_cases h1 : c = 112 ∨ c = 120
  · omega
  · rw [if_neg h1] at h
    by_cases h2 : c = 116
    · omega
    · rw [if_neg h2] at h
      by_cases h3 : c = 97
      · omega
      · rw [if_neg h3] at h
        by_cases h4 : c = 109
        · omega
        · rw [if_neg h4] at h
          exact absurd rfl h
section RE
variable {L d : Nat} {I : zI} {v : Nat → Int} {hs : Nat → Nat → Int} {hn : Nat} {ct tx : Nat → Int} {tl : Nat}
theorem c_obey {k : Nat} {c : Int} {u : Nat → Int} (h : CI I v hs hn ct tx tl) (hk : k < 50) (hc : wn c ≠ 0) (h85 : I 85 k = c) (hu : ∀ j, j < wn c → I (87 + k) j = u j) (hr : ∀ j, rng (u j)) : Ct L (d + 6) k_X7_obey [vR 2, vI k] I (fun r J => r = some (vI (ob v c u).1) ∧ CI J (ob v c u).2 hs hn ct tx tl ∧ ∀ q, (q < 3 ∨ 7 ≤ q) → (q < 37 ∨ 75 ≤ q) → q ≠ 81 → q ≠ 82 → J q = I q) := by
  have hcc := wn_in hc
  show Go L (d + 6) k_X7_obey 0 [some (vR 2), some (vI k), none] [] I _
  refine g_l 1 rfl rfl ?_
  refine g_fr rfl rfl ⟨⟨by decide, by omega, by decide⟩, by decide⟩ rfl ?_
  refine g_fr rfl rfl ⟨⟨by decide, by omega, by decide⟩, by decide⟩ rfl ?_
  refine g_l 8 rfl rfl ?_
  refine g_aa (c9 := 103) (n := 50) k rfl rfl ⟨Or.inl rfl, by omega⟩ rfl hk (R86 k hk) ?_
  refine g_l 10 rfl rfl ?_
  refine g_l 11 rfl rfl ?_
  refine g_fr rfl rfl ⟨⟨by decide, by omega, by decide⟩, by decide⟩ rfl ?_
  refine g_fr rfl rfl ⟨⟨by decide, by omega, by decide⟩, by decide⟩ rfl ?_
  refine g_l 18 rfl rfl ?_
  refine g_ia k rfl rfl rfl hk ?_
  rw [h85]
  rcases hcc with rfl | rfl | rfl | rfl | rfl
  · have h0 := hu 0 (by decide)
    refine g_ls 60 rfl (by decide) (by decide) ?_
    refine g_l 61 rfl rfl ?_
    refine g_fr rfl rfl ⟨⟨by decide, by omega, by decide⟩, by decide⟩ rfl ?_
    refine g_l 65 rfl rfl ?_
    refine g_p 66 rfl rfl ?_
    refine g_ia 0 rfl (S87 hk) rfl (by omega) ?_
    rw [h0]
    refine g_call rfl (c_addPiece St3 h.1 h.2.1) (fun r J hJ => ?_) (hr := rcv3 rfl)
    obtain ⟨rfl, k1, k2⟩ := hJ
    exact g_ret rfl rfl ⟨rfl, ⟨k1, ok_add h.2.1 (hr 0), h.2.2.fr (fun q hq => k2 q (by omega))⟩, fun q q1 q2 q3 q4 => k2 q (by omega)⟩
  · have h0 := hu 0 (by decide)
    refine g_ls 99 rfl (by decide) (by decide) ?_
    refine g_l 100 rfl rfl ?_
    refine g_fr rfl rfl ⟨⟨by decide, by omega, by decide⟩, by decide⟩ rfl ?_
    refine g_l 104 rfl rfl ?_
    refine g_p 105 rfl rfl ?_
    refine g_ia 0 rfl (S87 hk) rfl (by omega) ?_
    rw [h0]
    refine g_call rfl (c_take St3 h.1 h.2.1 (hr 0)) (fun r J hJ => ?_) (hr := rcv3 rfl)
    obtain ⟨rfl, k1, k2⟩ := hJ
    exact g_ret rfl rfl ⟨rfl, ⟨k1, ok_take h.2.1, h.2.2.fr (fun q hq => k2 q (by omega))⟩, fun q q1 q2 q3 q4 => k2 q (by omega)⟩
  · have h0 := hu 0 (by decide)
    have h1 := hu 1 (by decide)
    refine g_ls 71 rfl (by decide) (by decide) ?_
    refine g_l 72 rfl rfl ?_
    refine g_fr rfl rfl ⟨⟨by decide, by omega, by decide⟩, by decide⟩ rfl ?_
    refine g_l 76 rfl rfl ?_
    refine g_p 77 rfl rfl ?_
    refine g_ia 0 rfl (S87 hk) rfl (by omega) ?_
    rw [h0]
    refine g_l 79 rfl rfl ?_
    refine g_p 80 rfl rfl ?_
    refine g_ia 1 rfl (S87 hk) rfl (by omega) ?_
    rw [h1]
    refine g_call rfl (c_layTable St3 h.1 h.2.1 (hr 0) (hr 1)) (fun r J hJ => ?_) (hr := rcv3 rfl)
    obtain ⟨rfl, k1, k2⟩ := hJ
    exact g_ret rfl rfl ⟨rfl, ⟨k1, ok_tab h.2.1, h.2.2.fr (fun q hq => k2 q (by omega))⟩, fun q q1 q2 q3 q4 => k2 q (by omega)⟩
  · have h0 := hu 0 (by decide)
    have h1 := hu 1 (by decide)
    have h2 := hu 2 (by decide)
    refine g_ls 85 rfl (by decide) (by decide) ?_
    refine g_l 86 rfl rfl ?_
    refine g_l 87 rfl rfl ?_
    refine g_p 88 rfl rfl ?_
    refine g_ia 0 rfl (S87 hk) rfl (by omega) ?_
    rw [h0]
    refine g_l 90 rfl rfl ?_
    refine g_p 91 rfl rfl ?_
    refine g_ia 1 rfl (S87 hk) rfl (by omega) ?_
    rw [h1]
    refine g_l 93 rfl rfl ?_
    refine g_p 94 rfl rfl ?_
    refine g_ia 2 rfl (S87 hk) rfl (by omega) ?_
    rw [h2]
    refine g_call rfl (c_putOn h (hr 0) (hr 1) (hr 2)) (fun r J hJ => ?_) (hr := rcv2 rfl)
    obtain ⟨rfl, k1, k2, k3⟩ := hJ
    exact g_ret rfl rfl ⟨rfl, ⟨k1, ok_put h.2.1, k2⟩, fun q q1 q2 q3 q4 => k3 q (by omega) q2⟩
  · have h0 := hu 0 (by decide)
    have h1 := hu 1 (by decide)
    have h2 := hu 2 (by decide)
    have h3 := hu 3 (by decide)
    refine g_ls 110 rfl (by decide) (by decide) ?_
    refine g_l 111 rfl rfl ?_
    refine g_fr rfl rfl ⟨⟨by decide, by omega, by decide⟩, by decide⟩ rfl ?_
    refine g_l 115 rfl rfl ?_
    refine g_fr rfl rfl ⟨⟨by decide, by omega, by decide⟩, by decide⟩ rfl ?_
    refine g_l 119 rfl rfl ?_
    refine g_p 120 rfl rfl ?_
    refine g_ia 0 rfl (S87 hk) rfl (by omega) ?_
    rw [h0]
    refine g_l 122 rfl rfl ?_
    refine g_p 123 rfl rfl ?_
    refine g_ia 1 rfl (S87 hk) rfl (by omega) ?_
    rw [h1]
    refine g_l 125 rfl rfl ?_
    refine g_p 126 rfl rfl ?_
    refine g_ia 2 rfl (S87 hk) rfl (by omega) ?_
    rw [h2]
    refine g_l 128 rfl rfl ?_
    refine g_p 129 rfl rfl ?_
    refine g_ia 3 rfl (S87 hk) rfl (by omega) ?_
    rw [h3]
    refine g_call rfl (c_makePieces h.1 h.2.1 (hr 0) (hr 1) (hr 2) (hr 3)) (fun r J hJ => ?_) (hr := rcv81 rfl)
    obtain ⟨rfl, k1, k2⟩ := hJ
    exact g_ret rfl rfl ⟨rfl, ⟨k1, ok_mk h.2.1, h.2.2.fr (fun q hq => k2 q (by omega) (by omega) (by omega))⟩, fun q q1 q2 q3 q4 => k2 q q1 q3 q4⟩
theorem ob_rng {v : Nat → Int} {c : Int} {u : Nat → Int} (ho : OKv v) : rng (ob v c u).1 := by
  have h0 := ho.1
  have hp := ho.pos
  unfold ob
  split
  · unfold sAdd
    split
    · show rng (v 0)
      omega
    · exact r_4
  · split
    · have := cnF_rng (vc v) (v 9 * v 10).toNat 0
      unfold sTab
      split
      · show rng (cn (vc v) (v 9 * v 10))
        unfold cn
        omega
      · exact r_2
    · split
      · exact (sPut_ok ho).2
      · split
        · exact (sTake_ok ho).2
        · exact sMk_ok.2
theorem c_reads (h : CI I v hs hn ct tx tl) : Ct L (d + 7) k_X7_reads [vR 2] I (PA I (rdZ v tx tl).1 (rdZ v tx tl).2 (mhs (rdZ v tx tl).1 v hs hn) (mhn (rdZ v tx tl).1 hn) ct tx tl) := by
  have hT := h.2.2.2.2.1
  show Go L (d + 7) k_X7_reads 0 [some (vR 2), none, none] [] I _
  refine g_l 1 rfl rfl ?_
  refine g_fr rfl rfl ⟨⟨by decide, by omega, by decide⟩, by decide⟩ rfl ?_
  refine g_call rfl (c_parseOrders (d := d + 2) hT) (fun r J hJ => ?_) (hr := rcv83 rfl)
  obtain ⟨rfl, j1, j2, j3⟩ := hJ
  have hC : CI J v hs hn ct tx tl := ⟨h.1.fq (fun q a b => j1 q (by omega) (by omega) (by omega)), h.2.1, ⟨h.2.2.1.1.fr (fun q a b => j1 q (by omega) (by omega) (by omega)), h.2.2.1.2⟩, fun j hj => by rw [j1 2 (by omega) (by omega) (by omega)]; exact h.2.2.2.1 j hj, hT.fr j2 (j1 84 (by omega) (by omega) (by omega)), h.2.2.2.2.2.1.fr (fun q a b => j1 q (by omega) (by omega) (by omega)), fun j hj => by rw [j1 0 (by omega) (by omega) (by omega)]; exact h.2.2.2.2.2.2 j hj⟩
  have hF : FrC I J := fun q hq => j1 q (by omega) (by omega) (by omega)
  have hz : rdZ v tx tl = (if (prF tx tl 50 0).1 = true then (if (exF tx tl (prF tx tl 50 0).2 0 v).1 = true then ((((prF tx tl 50 0).2 : Nat) : Int), (exF tx tl (prF tx tl 50 0).2 0 v).2.2) else ((-1000 : Int) - (((exF tx tl (prF tx tl 50 0).2 0 v).2.1 : Nat) : Int), v)) else ((-10 : Int) - (((prF tx tl 50 0).2 : Nat) : Int), v)) := rfl
  have h2r : (prF tx tl 50 0).1 ≠ true → (prF tx tl 50 0).2 ≤ 150 := by
    have hpos : ∀ m k, (prF tx tl m k).1 ≠ true → (prF tx tl m k).2 ≤ tl := by
      intro m
      induction m with
      | zero => intro k _; exact osF_le k
      | succ m ih =>
        intro k hk
        unfold prF at hk ⊢
        split at hk
        · rename_i h1
          rw [if_pos h1]
          split at hk
          · exact absurd rfl hk
          · rename_i h2
            rw [if_neg h2]
            exact ih (k + 1) hk
        · rename_i h1
          rw [if_neg h1]
          exact (poF_rng (osF_le k)).2
    intro hh
    have := hpos 50 0 hh
    have := hT.2.1
    omega
  generalize prF tx tl 50 0 = pr at j3 hz h2r ⊢
  obtain ⟨pb, pn⟩ := pr
  cases pb with
  | false =>
    have hz : rdZ v tx tl = (-10 - (pn : Int), v) := hz
    have hpn : pn ≤ 150 := h2r Bool.false_ne_true
    rw [hz]
    show Go L (d + 7) k_X7_reads 7 [some (vR 2), none, none] [vI (pn : Int)] J _
    refine g_l 8 rfl rfl ?_
    refine g_l 9 rfl rfl ?_
    refine g_p 10 rfl rfl ?_
    refine g_ic_eq rfl (by omega) (by omega) (fun g => ?_) (fun g => ?_)
    · exact absurd g (by omega)
    · refine g_p 15 rfl rfl ?_
      refine g_l 16 rfl rfl ?_
      refine g_p 17 rfl rfl ?_
      refine g_ret rfl rfl ⟨rfl, ?_, hF⟩
      show CI J v (mhs (-10 - (pn : Int)) v hs hn) (mhn (-10 - (pn : Int)) hn) ct tx tl
      unfold mhs mhn
      rw [if_pos (by omega), if_pos (by omega)]
      exact hC
  | true =>
    obtain ⟨p1, p2, p3⟩ := j3 rfl
    have p1 : pn ≤ 50 := p1
    have hz : rdZ v tx tl = (if (exF tx tl pn 0 v).1 = true then ((pn : Int), (exF tx tl pn 0 v).2.2) else ((-1000 : Int) - (((exF tx tl pn 0 v).2.1 : Nat) : Int), v)) := hz
    show Go L (d + 7) k_X7_reads 7 [some (vR 2), none, none] [vI (-1)] J _
    refine g_l 8 rfl rfl ?_
    refine g_l 9 rfl rfl ?_
    refine g_p 10 rfl rfl ?_
    refine g_ic_eq rfl (by omega) (by omega) (fun g => ?_) (fun g => ?_)
    · refine g_l 19 rfl rfl ?_
      refine g_fr rfl rfl ⟨⟨by decide, by omega, by decide⟩, by decide⟩ rfl ?_
      refine g_l 23 rfl rfl ?_
      refine g_fr rfl rfl ⟨⟨by decide, by omega, by decide⟩, by decide⟩ rfl ?_
      refine g_call rfl (c_scopy (d := d + 4) St7 St3 (by decide)) (fun r K hK => ?_) (hr := rcv7 rfl)
      obtain ⟨rfl, kk1, kk2⟩ := hK
      have h7 := kk1 v hC.1
      have hKC : CI K v hs hn ct tx tl := ⟨hC.1.fq (fun q a b => kk2 q (by omega)), hC.2.1, hC.2.2.fr (fun q hq => kk2 q (by omega))⟩
      have hKF : FrC J K := fun q hq => kk2 q (by omega)
      have hKJ : ∀ q, 81 ≤ q → K q = J q := fun q hq => kk2 q (by omega)
      refine g_p 30 rfl rfl ?_
      refine g_l 31 rfl rfl ?_
      have loop : ∀ (m k : Nat) (w : Nat → Int) (M : zI), k + m = pn → CI M w hs hn ct tx tl → StAt M 7 v → (∀ q, 83 ≤ q → M q = J q) → FrC I M → exF tx tl m k w = exF tx tl pn 0 v → Go L (d + 7) k_X7_reads 31 [some (vR 2), some (vI (-1)), some (vI k)] [] M (PA I (rdZ v tx tl).1 (rdZ v tx tl).2 (mhs (rdZ v tx tl).1 v hs hn) (mhn (rdZ v tx tl).1 hn) ct tx tl) := by
        intro m
        induction m with
        | zero =>
          intro k w M hk hM h7M hMJ hMF he
          have he : (true, k, w) = exF tx tl pn 0 v := he
          rw [← he, if_pos rfl] at hz
          have hk : k = pn := by omega
          subst hk
          have hcnt : M 83 3 = (k : Int) := by rw [hMJ 83 (by omega)]; exact p2
          rw [hz]
          refine g_l 32 rfl rfl ?_
          refine g_l 33 rfl rfl ?_
          refine g_fr rfl rfl ⟨⟨by decide, by omega, by decide⟩, by decide⟩ rfl ?_
          refine g_fi rfl rfl ⟨⟨by decide, by omega, by decide⟩, by decide⟩ ?_
          rw [hcnt]
          refine g_ic_ge rfl (by omega) (by omega) (fun g1 => ?_) (fun g1 => ?_)
          · refine g_l 74 rfl rfl ?_
            refine g_fr rfl rfl ⟨⟨by decide, by omega, by decide⟩, by decide⟩ rfl ?_
            refine g_l 78 rfl rfl ?_
            refine g_fr rfl rfl ⟨⟨by decide, by omega, by decide⟩, by decide⟩ rfl ?_
            refine g_call rfl (c_keep (d := d + 3) (Or.inr rfl) hM.2.2.1.1 h7M) (fun r N hN => ?_) (hr := rcv11 rfl)
            obtain ⟨rfl, n1, n2⟩ := hN
            refine g_l 85 rfl rfl ?_
            refine g_fr rfl rfl ⟨⟨by decide, by omega, by decide⟩, by decide⟩ rfl ?_
            refine g_fi rfl rfl ⟨⟨by decide, by omega, by decide⟩, by decide⟩ ?_
            rw [n2 83 (by omega), hcnt]
            have hrest := hM.2.2
            refine g_ret rfl rfl ⟨rfl, ⟨hM.1.fq (fun q a b => n2 q (by omega)), hM.2.1, ⟨?_, ?_⟩, fun j hj => ?_, hrest.2.2.1.fr (by rw [n2 83 (by omega)]) (n2 84 (by omega)), hrest.2.2.2.1.fr (fun q a b => n2 q (by omega)), fun j hj => ?_⟩, fun q hq => by rw [n2 q (by omega)]; exact hMF q hq⟩
            · show HsAt N (mhs (k : Int) v hs hn) (mhn (k : Int) hn)
              unfold mhs mhn
              rw [if_neg (by omega), if_neg (by omega)]
              exact n1
            · show ∀ i, i < mhn (k : Int) hn → OKv (mhs (k : Int) v hs hn i)
              have e1 : mhs (k : Int) v hs hn = hpush hs hn v := if_neg (by omega)
              have e2 : mhn (k : Int) hn = (if hn < 6 then hn + 1 else 6) := if_neg (by omega)
              rw [e1, e2]
              exact hpush_ok hrest.1.2 h.2.1 hrest.1.1.2.1
            · rw [n2 2 (by omega)]
              exact hrest.2.1 j hj
            · rw [n2 0 (by omega)]
              exact hrest.2.2.2.2 j hj
          · exact absurd g1 (by omega)
        | succ m ih =>
          intro k w M hk hM h7M hMJ hMF he
          have hcnt : M 83 3 = (pn : Int) := by rw [hMJ 83 (by omega)]; exact p2
          obtain ⟨o1, o2, o3⟩ := p3 k (by show k < pn; omega)
          have hwn : wn (bh tx tl (osF tx tl k)) ≠ 0 := fun z => by
            unfold poF at o1
            rw [if_pos z] at o1
            exact absurd o1 Bool.false_ne_true
          have hrg := ob_rng (c := bh tx tl (osF tx tl k)) (u := (poF tx tl (osF tx tl k)).2.2) hM.2.1
          rw [exF] at he
          refine g_l 32 rfl rfl ?_
          refine g_l 33 rfl rfl ?_
          refine g_fr rfl rfl ⟨⟨by decide, by omega, by decide⟩, by decide⟩ rfl ?_
          refine g_fi rfl rfl ⟨⟨by decide, by omega, by decide⟩, by decide⟩ ?_
          rw [hcnt]
          refine g_ic_ge rfl (by omega) (by omega) (fun g1 => ?_) (fun g1 => ?_)
          · exact absurd g1 (by omega)
          · refine g_l 43 rfl rfl ?_
            refine g_l 44 rfl rfl ?_
            refine g_call rfl (c_obey hM (by omega) hwn (by rw [hMJ 85 (by omega)]; exact o2) (fun j hj => by rw [hMJ (87 + k) (by omega)]; exact o3 j hj) poF_val) (fun r N hN => ?_) (hr := rcv2 rfl)
            obtain ⟨rfl, n1, n2⟩ := hN
            have hNF : FrC I N := fun q hq => by rw [n2 q (by omega) (by omega) (by omega) (by omega)]; exact hMF q hq
            have h7N := h7M.fq (J := N) (fun q a b => n2 q (by omega) (by omega) (by omega) (by omega))
            generalize ob w (bh tx tl (osF tx tl k)) (poF tx tl (osF tx tl k)).2.2 = z at he hrg n1 ⊢
            refine g_if_ge rfl (by omega) (fun g2 => ?_) (fun g2 => ?_)
            · rw [if_neg (by omega)] at he
              refine g_l 70 rfl rfl ?_
              refine g_goto rfl ?_
              exact ih (k + 1) z.2 N (by omega) n1 h7N (fun q hq => by rw [n2 q (by omega) (by omega) (by omega) (by omega)]; exact hMJ q hq) hNF he
            · rw [if_pos (by omega)] at he
              rw [← he] at hz
              have hz : rdZ v tx tl = (-1000 - (k : Int), v) := hz
              rw [hz]
              refine g_l 51 rfl rfl ?_
              refine g_fr rfl rfl ⟨⟨by decide, by omega, by decide⟩, by decide⟩ rfl ?_
              refine g_l 55 rfl rfl ?_
              refine g_fr rfl rfl ⟨⟨by decide, by omega, by decide⟩, by decide⟩ rfl ?_
              refine g_call rfl (c_scopy (d := d + 4) St3 St7 (by decide)) (fun r U hU => ?_) (hr := rcv3 rfl)
              obtain ⟨rfl, u1, u2⟩ := hU
              refine g_p 64 rfl rfl ?_
              refine g_l 65 rfl rfl ?_
              refine g_p 66 rfl rfl ?_
              refine g_ret rfl rfl ⟨rfl, ⟨u1 v h7N, h.2.1, ?_⟩, fun q hq => by rw [u2 q (by omega)]; exact hNF q hq⟩
              show CR U (mhs (-1000 - (k : Int)) v hs hn) (mhn (-1000 - (k : Int)) hn) ct tx tl
              unfold mhs mhn
              rw [if_pos (by omega), if_pos (by omega)]
              exact n1.2.2.fr (fun q hq => u2 q (by omega))
      exact loop pn 0 v K (by omega) hKC h7 (fun q hq => hKJ q (by omega)) (hF.tr hKF) rfl
    · exact absurd rfl g
end RE
