/-! Text -/
theorem zsq {I : zI} {a k : Nat} {x y : Int} : zup2 (zup2 I a k x) a k y = zup2 I a k y := by
  funext q j
  unfold zup2 zup
  by_cases h : q = a
  · subst h
    by_cases h2 : j = k <;> simp [h2]
  · simp [h]
theorem zcm {I : zI} {a b k l : Nat} {x y : Int} (h : a ≠ b) : zup2 (zup2 I a k x) b l y = zup2 (zup2 I b l y) a k x := by
  funext q j
  unfold zup2 zup
  by_cases h1 : q = a
  · subst h1
    simp [h]
  · by_cases h2 : q = b
    · subst h2
      simp [h1]
    · simp [h1, h2]
theorem zcs {I : zI} {a k l : Nat} {x y : Int} (h : k ≠ l) : zup2 (zup2 I a k x) a l y = zup2 (zup2 I a l y) a k x := by
  funext q j
  unfold zup2 zup
  by_cases h1 : q = a
  · subst h1
    by_cases h2 : j = k
    · subst h2
      simp [h]
    · simp [h2]
  · simp [h1]
theorem zse {I : zI} {a k : Nat} {x : Int} (h : I a k = x) : zup2 I a k x = I := by
  subst h
  funext q j
  unfold zup2 zup
  by_cases h1 : q = a
  · subst h1
    by_cases h2 : j = k
    · subst h2
      simp
    · simp [h2]
  · simp [h1]
def skF (tx : Nat → Int) : Nat → Nat → Nat
  | 0, p => p
  | m + 1, p => if tx p = 32 then skF tx m (p + 1) else p
/-- the place behind the spaces -/
def sk (tx : Nat → Int) (tl p : Nat) : Nat := skF tx (tl - p) p
theorem skF_rng (tx : Nat → Int) : ∀ m p, p ≤ skF tx m p ∧ skF tx m p ≤ p + m
  | 0, p => by unfold skF; omega
  | m + 1, p => by
    have := skF_rng tx m (p + 1)
    unfold skF
    split <;> omega
theorem sk_rng {tx : Nat → Int} {tl p : Nat} (h : p ≤ tl) : p ≤ sk tx tl p ∧ sk tx tl p ≤ tl := by
  have := skF_rng tx (tl - p) p
  unfold sk
  omega
def bh (tx : Nat → Int) (tl p : Nat) : Int := if p < tl then tx p else -1
abbrev isd (tx : Nat → Int) (tl p : Nat) : Prop := 0 ≤ bh tx tl p - 48 ∧ bh tx tl p - 48 < 10
theorem isd_lt {tx : Nat → Int} {tl p : Nat} (h : isd tx tl p) : p < tl := by
  unfold isd bh at h
  by_cases hp : p < tl
  · exact hp
  · rw [if_neg hp] at h
    omega
def nmF (tx : Nat → Int) (tl : Nat) : Nat → Nat → Int → Nat × Int
  | 0, p, x => (p, x)
  | m + 1, p, x => if isd tx tl p then nmF tx tl m (p + 1) (10 * x + bh tx tl p - 48) else (p, x)
theorem nmF_rng {tx : Nat → Int} {tl : Nat} : ∀ (m p : Nat) (x : Int), p ≤ tl → p ≤ (nmF tx tl m p x).1 ∧ (nmF tx tl m p x).1 ≤ p + m ∧ (nmF tx tl m p x).1 ≤ tl
  | 0, p, x, h => by unfold nmF; exact ⟨Nat.le_refl _, Nat.le_refl _, h⟩
  | m + 1, p, x, h => by
    unfold nmF
    split
    · rename_i hd
      have := nmF_rng (tx := tx) m (p + 1) (10 * x + bh tx tl p - 48) (isd_lt hd)
      omega
    · exact ⟨Nat.le_refl _, by omega, h⟩
def pnF (tx : Nat → Int) (tl : Nat) : Nat → Nat → Nat → (Nat → Int) → Bool × Nat × (Nat → Int)
  | 0, _, p, u => (true, p, u)
  | m + 1, i, p, u => if (nmF tx tl 6 (sk tx tl p) 0).1 = sk tx tl p ∨ isd tx tl (nmF tx tl 6 (sk tx tl p) 0).1 then (false, (nmF tx tl 6 (sk tx tl p) 0).1, u) else pnF tx tl m (i + 1) (nmF tx tl 6 (sk tx tl p) 0).1 (zup u i (nmF tx tl 6 (sk tx tl p) 0).2)
theorem pnF_rng {tx : Nat → Int} {tl : Nat} : ∀ (m i p : Nat) (u : Nat → Int), p ≤ tl → p ≤ (pnF tx tl m i p u).2.1 ∧ (pnF tx tl m i p u).2.1 ≤ tl
  | 0, i, p, u, h => by unfold pnF; exact ⟨Nat.le_refl _, h⟩
  | m + 1, i, p, u, h => by
    have h1 := sk_rng (tx := tx) h
    have h2 := nmF_rng (tx := tx) 6 (sk tx tl p) 0 h1.2
    unfold pnF
    split
    · exact ⟨show p ≤ (nmF tx tl 6 (sk tx tl p) 0).1 by omega, h2.2.2⟩
    · have := pnF_rng m (i + 1) (nmF tx tl 6 (sk tx tl p) 0).1 (zup u i (nmF tx tl 6 (sk tx tl p) 0).2) (tx := tx) (tl := tl) (by omega)
      omega
def pcF (tx : Nat → Int) (tl : Nat) : Nat → Nat → Nat → Int → Bool × Nat × Int
  | 0, _, p, x => (true, p, x)
  | m + 1, i, p, x => if 0 ≤ bh tx tl (sk tx tl p) - 48 ∧ bh tx tl (sk tx tl p) - 48 < 4 then pcF tx tl m (i + 1) (sk tx tl p + 1) (zor x (zshl (bh tx tl (sk tx tl p) - 48) (2 * i))) else (false, sk tx tl p, x)
theorem bh_lt {tx : Nat → Int} {tl p : Nat} (h : bh tx tl p ≠ -1) : p < tl := by
  unfold bh at h
  by_cases hp : p < tl
  · exact hp
  · rw [if_neg hp] at h
    omega
theorem pcF_rng {tx : Nat → Int} {tl : Nat} : ∀ (m i p : Nat) (x : Int), p ≤ tl → p ≤ (pcF tx tl m i p x).2.1 ∧ (pcF tx tl m i p x).2.1 ≤ tl
  | 0, i, p, x, h => by unfold pcF; exact ⟨Nat.le_refl _, h⟩
  | m + 1, i, p, x, h => by
    have h1 := sk_rng (tx := tx) h
    unfold pcF
    split
    · rename_i h2
      have := bh_lt (tx := tx) (tl := tl) (p := sk tx tl p) (by omega)
      have := pcF_rng (tx := tx) (tl := tl) m (i + 1) (sk tx tl p + 1) (zor x (zshl (bh tx tl (sk tx tl p) - 48) (2 * i))) (by omega)
      omega
    · exact h1
/-- the numbers behind a letter -/
def wn (c : Int) : Nat := if c = 112 ∨ c = 120 then 1 else if c = 116 then 2 else if c = 97 then 3 else if c = 109 then 4 else 0
/-- what stands behind the letter -/
def pbF (tx : Nat → Int) (tl p : Nat) : Bool × Nat × (Nat → Int) := if bh tx tl p = 112 then ((pcF tx tl 16 0 (p + 1) 0).1, (pcF tx tl 16 0 (p + 1) 0).2.1, fun _ => (pcF tx tl 16 0 (p + 1) 0).2.2) else pnF tx tl (wn (bh tx tl p)) 0 (p + 1) (fun _ => 0)
/-- an order -/
def poF (tx : Nat → Int) (tl p : Nat) : Bool × Nat × (Nat → Int) := if wn (bh tx tl p) = 0 then (false, p, fun _ => 0) else if (pbF tx tl p).1 = true then (if bh tx tl (sk tx tl (pbF tx tl p).2.1) = 59 then (true, sk tx tl (pbF tx tl p).2.1 + 1, (pbF tx tl p).2.2) else (false, sk tx tl (pbF tx tl p).2.1, (pbF tx tl p).2.2)) else (false, (pbF tx tl p).2.1, (pbF tx tl p).2.2)
theorem wn_lt {tx : Nat → Int} {tl p : Nat} (h : wn (bh tx tl p) ≠ 0) : p < tl := by
  refine bh_lt (tx := tx) (fun e => h ?_)
  rw [e]
  rfl
theorem pbF_rng {tx : Nat → Int} {tl p : Nat} (h : p < tl) : p + 1 ≤ (pbF tx tl p).2.1 ∧ (pbF tx tl p).2.1 ≤ tl := by
  unfold pbF
  split
  · exact pcF_rng 16 0 (p + 1) 0 (by omega)
  · exact pnF_rng _ 0 (p + 1) _ (by omega)
theorem poF_rng {tx : Nat → Int} {tl p : Nat} (h : p ≤ tl) : p ≤ (poF tx tl p).2.1 ∧ (poF tx tl p).2.1 ≤ tl := by
  unfold poF
  split
  · exact ⟨Nat.le_refl _, h⟩
  · rename_i hw
    have hp := wn_lt hw
    have h1 := pbF_rng (tx := tx) hp
    have h2 := sk_rng (tx := tx) h1.2
    split
    · split
      · rename_i h3
        have := bh_lt (tx := tx) (tl := tl) (p := sk tx tl (pbF tx tl p).2.1) (by omega)
        exact ⟨by show p ≤ sk _ _ _ + 1; omega, by show sk _ _ _ + 1 ≤ tl; omega⟩
      · exact ⟨by show p ≤ sk _ _ _; omega, h2.2⟩
    · exact ⟨show p ≤ (pbF tx tl p).2.1 by omega, h1.2⟩
def osF (tx : Nat → Int) (tl : Nat) : Nat → Nat
  | 0 => sk tx tl 0
  | k + 1 => sk tx tl (poF tx tl (osF tx tl k)).2.1
theorem osF_le {tx : Nat → Int} {tl : Nat} : ∀ k, osF tx tl k ≤ tl
  | 0 => (sk_rng (Nat.zero_le _)).2
  | k + 1 => (sk_rng (poF_rng (osF_le k)).2).2
def prF (tx : Nat → Int) (tl : Nat) : Nat → Nat → Bool × Nat
  | 0, k => (false, osF tx tl k)
  | m + 1, k => if (poF tx tl (osF tx tl k)).1 = true then (if tl ≤ osF tx tl (k + 1) then (true, k + 1) else prF tx tl m (k + 1)) else (false, (poF tx tl (osF tx tl k)).2.1)
def TX (I : zI) (tx : Nat → Int) (tl : Nat) : Prop := I 83 1 = tl ∧ tl ≤ 150 ∧ ∀ j, j < tl → I 84 j = tx j ∧ 0 ≤ tx j ∧ tx j ≤ 127
theorem TX.up {I : zI} {tx : Nat → Int} {tl : Nat} {x : Int} (h : TX I tx tl) : TX (zup2 I 83 2 x) tx tl := ⟨by rw [zup2_an (by omega)]; exact h.1, h.2.1, fun j hj => by rw [zup2_ne (by omega)]; exact h.2.2 j hj⟩
theorem bh_rng {I : zI} {tx : Nat → Int} {tl : Nat} (h : TX I tx tl) (p : Nat) : -1 ≤ bh tx tl p ∧ bh tx tl p ≤ 127 := by
  unfold bh
  split
  · rename_i hp
    have := (h.2.2 p hp).2
    omega
  · omega
theorem R86 : ∀ k, k < 50 → (R0.getD 86 []).getD k none = some (87 + k) := by decide
theorem S87 {L k : Nat} (hk : k < 50) : (Sh0 L)[87 + k]? = some (100, 4) := by
  rw [Sh0_eq (by omega)]
  revert k
  decide
section TT
variable {L d : Nat} {I : zI} {tx : Nat → Int} {tl : Nat}
theorem c_skip {p : Nat} (hT : TX I tx tl) (hp : p ≤ tl) : Ev L d k_X6_skipSpaces [vR 83] (zup2 I 83 2 p) none (zup2 I 83 2 (sk tx tl p : Nat)) := by
  obtain ⟨t1, t2, t3⟩ := id hT
  have key : ∀ (m p : Nat), p + m = tl → Go L d k_X6_skipSpaces 0 [some (vR 83)] [] (zup2 I 83 2 p) (fun r J => r = none ∧ J = zup2 I 83 2 (skF tx m p : Nat)) := by
    intro m
    induction m with
    | zero =>
      intro p hp
      refine g_l 1 rfl rfl ?_
      refine g_fi rfl rfl ⟨⟨by decide, by omega, by decide⟩, by decide⟩ ?_
      refine g_l 5 rfl rfl ?_
      refine g_fi rfl rfl ⟨⟨by decide, by omega, by decide⟩, by decide⟩ ?_
      rw [zup2_at, zup2_an (by omega), t1]
      refine g_ic_ge rfl (by omega) (by omega) (fun h => ?_) (fun h => ?_)
      · exact g_ret rfl rfl ⟨rfl, rfl⟩
      · exact absurd h (by omega)
    | succ m ih =>
      intro p hp
      obtain ⟨u1, u2, u3⟩ := t3 p (by omega)
      refine g_l 1 rfl rfl ?_
      refine g_fi rfl rfl ⟨⟨by decide, by omega, by decide⟩, by decide⟩ ?_
      refine g_l 5 rfl rfl ?_
      refine g_fi rfl rfl ⟨⟨by decide, by omega, by decide⟩, by decide⟩ ?_
      rw [zup2_at, zup2_an (by omega), t1]
      refine g_ic_ge rfl (by omega) (by omega) (fun h => ?_) (fun h => ?_)
      · exact absurd h (by omega)
      · refine g_l 12 rfl rfl ?_
        refine g_fr rfl rfl ⟨⟨by decide, by omega, by decide⟩, by decide⟩ rfl ?_
        refine g_l 16 rfl rfl ?_
        refine g_fi rfl rfl ⟨⟨by decide, by omega, by decide⟩, by decide⟩ ?_
        rw [zup2_at]
        refine g_ba (c9 := 101) (n := 150) p rfl rfl ⟨Or.inl rfl, by omega⟩ rfl (by omega) ?_
        rw [zup2_ne (by omega), u1]
        refine g_p 22 rfl rfl ?_
        refine g_ic_ne rfl (by omega) (by omega) (fun h1 => ?_) (fun h1 => ?_)
        · refine g_ret rfl rfl ⟨rfl, ?_⟩
          rw [skF, if_neg (by omega)]
        · refine g_l 26 rfl rfl ?_
          refine g_p 27 rfl rfl ?_
          refine g_fi rfl rfl ⟨⟨by decide, by omega, by decide⟩, by decide⟩ ?_
          refine g_p 31 rfl rfl ?_
          refine g_p 32 rfl rfl ?_
          refine g_wi rfl rfl ⟨⟨by decide, by omega, by decide⟩, by decide⟩ ?_
          refine g_goto rfl ?_
          rw [zup2_at, zsq, skF, if_pos (by omega)]
          exact ih (p + 1) (by omega)
  show Go L d k_X6_skipSpaces 0 [some (vR 83)] [] _ _
  exact key (tl - p) p (by omega)
theorem c_byteHere {p : Nat} (hT : TX I tx tl) (hp : p ≤ tl) : Ev L d k_X6_byteHere [vR 83] (zup2 I 83 2 p) (some (vI (bh tx tl p))) (zup2 I 83 2 p) := by
  obtain ⟨t1, t2, t3⟩ := id hT
  show Go L d k_X6_byteHere 0 [some (vR 83)] [] _ _
  refine g_l 1 rfl rfl ?_
  refine g_fi rfl rfl ⟨⟨by decide, by omega, by decide⟩, by decide⟩ ?_
  refine g_l 5 rfl rfl ?_
  refine g_fi rfl rfl ⟨⟨by decide, by omega, by decide⟩, by decide⟩ ?_
  rw [zup2_at, zup2_an (by omega), t1]
  refine g_ic_ge rfl (by omega) (by omega) (fun h => ?_) (fun h => ?_)
  · refine g_p 24 rfl rfl ?_
    refine g_ret rfl rfl ⟨?_, rfl⟩
    unfold bh
    rw [if_neg (by omega)]
  · obtain ⟨u1, u2, u3⟩ := t3 p (by omega)
    refine g_l 12 rfl rfl ?_
    refine g_fr rfl rfl ⟨⟨by decide, by omega, by decide⟩, by decide⟩ rfl ?_
    refine g_l 16 rfl rfl ?_
    refine g_fi rfl rfl ⟨⟨by decide, by omega, by decide⟩, by decide⟩ ?_
    rw [zup2_at]
    refine g_ba (c9 := 101) (n := 150) p rfl rfl ⟨Or.inl rfl, by omega⟩ rfl (by omega) ?_
    rw [zup2_ne (by omega), u1]
    refine g_goto rfl ?_
    refine g_ret rfl rfl ⟨?_, rfl⟩
    unfold bh
    rw [if_pos (by omega)]
theorem c_isDigit {p : Nat} (hT : TX I tx tl) (hp : p ≤ tl) : Ev L (d + 1) k_X6_isDigitHere [vR 83] (zup2 I 83 2 p) (some (vI (b2i (isd tx tl p)))) (zup2 I 83 2 p) := by
  have hb := bh_rng hT p
  show Go L (d + 1) k_X6_isDigitHere 0 [some (vR 83)] [] _ _
  refine g_l 1 rfl rfl ?_
  refine g_callE rfl (c_byteHere hT hp) ?_ (hr := rcv (n := 6) (c := 6) rfl ⟨by decide, by omega, rfl⟩)
  refine g_p 6 rfl rfl ?_
  refine g_p 7 rfl rfl ?_
  refine g_p 9 rfl rfl ?_
  refine g_callE rfl (c_isWithin (by omega) (by omega)) ?_
  have hr := b2i_r (0 ≤ bh tx tl p - 48 ∧ bh tx tl p - 48 < 10)
  exact g_retb rfl rfl (by omega) ⟨rfl, rfl⟩
theorem c_numbersAfter {c : Int} (hc : rng c) : Ev L d k_X6_numbersAfter [vI c] I (some (vI (wn c : Nat))) I := by
  show Go L d k_X6_numbersAfter 0 [some (vI c)] [] I _
  refine g_l 1 rfl rfl ?_
  by_cases h1 : c = 112
  · subst h1
    refine g_ls 52 rfl (by decide) (by decide) ?_
    refine g_p 53 rfl rfl ?_
    exact g_ret rfl rfl ⟨rfl, rfl⟩
  · by_cases h2 : c = 120
    · subst h2
      refine g_ls 52 rfl (by decide) (by decide) ?_
      refine g_p 53 rfl rfl ?_
      exact g_ret rfl rfl ⟨rfl, rfl⟩
    · by_cases h3 : c = 116
      · subst h3
        refine g_ls 54 rfl (by decide) (by decide) ?_
        refine g_p 55 rfl rfl ?_
        exact g_ret rfl rfl ⟨rfl, rfl⟩
      · by_cases h4 : c = 97
        · subst h4
          refine g_ls 56 rfl (by decide) (by decide) ?_
          refine g_p 57 rfl rfl ?_
          exact g_ret rfl rfl ⟨rfl, rfl⟩
        · by_cases h5 : c = 109
          · subst h5
            refine g_ls 58 rfl (by decide) (by decide) ?_
            refine g_p 59 rfl rfl ?_
            exact g_ret rfl rfl ⟨rfl, rfl⟩
          · refine g_ls 60 rfl hc (by simp [Op.lookupswitch.offset, Ne.symm h1, Ne.symm h2, Ne.symm h3, Ne.symm h4, Ne.symm h5]) ?_
            refine g_p 61 rfl rfl ?_
            refine g_ret rfl rfl ⟨?_, rfl⟩
            unfold wn
            simp [h1, h2, h3, h4, h5]
theorem zi2b_eq : ∀ n, n < 128 → zi2b ((n : Nat) : Int) = ((n : Nat) : Int) := by decide +kernel
theorem c_append {c : Int} (hT : TX I tx tl) (hl : tl < 150) (hc : 0 ≤ c ∧ c < 128) : Ev L d k_X6_append [vR 83, vI c] I none (zup2 (zup2 I 84 tl c) 83 1 ((tl + 1 : Nat) : Int)) := by
  obtain ⟨t1, t2, t3⟩ := id hT
  show Go L d k_X6_append 0 [some (vR 83), some (vI c)] [] _ _
  refine g_l 1 rfl rfl ?_
  refine g_fi rfl rfl ⟨⟨by decide, by omega, by decide⟩, by decide⟩ ?_
  refine g_p 7 rfl rfl ?_
  rw [t1]
  refine g_ic_ge rfl (by omega) (by omega) (fun h => ?_) (fun h => ?_)
  · exact absurd h (by omega)
  · refine g_l 11 rfl rfl ?_
    refine g_fr rfl rfl ⟨⟨by decide, by omega, by decide⟩, by decide⟩ rfl ?_
    refine g_l 15 rfl rfl ?_
    refine g_fi rfl rfl ⟨⟨by decide, by omega, by decide⟩, by decide⟩ ?_
    refine g_l 19 rfl rfl ?_
    refine g_p 20 rfl rfl ?_
    rw [t1]
    obtain ⟨m, hm⟩ := Int.eq_ofNat_of_zero_le hc.1
    have e := zi2b_eq m (by omega)
    rw [hm, e]
    refine g_bas (c9 := 101) (n := 150) tl rfl rfl (Or.inl ⟨rfl, by omega, by omega⟩) (by omega) rfl (by omega) ?_
    refine g_l 22 rfl rfl ?_
    refine g_p 23 rfl rfl ?_
    refine g_fi rfl rfl ⟨⟨by decide, by omega, by decide⟩, by decide⟩ ?_
    refine g_p 27 rfl rfl ?_
    refine g_p 28 rfl rfl ?_
    refine g_wi rfl rfl ⟨⟨by decide, by omega, by decide⟩, by decide⟩ ?_
    rw [zup2_ne (by omega), t1]
    exact g_ret rfl rfl ⟨rfl, rfl⟩
end TT
