/-! EdgeJoin: its state, refusals, changes -/
def rfs (ct : Nat → Int) (why : Int) : Nat → Int := zup ct (-2 - why).toNat (ct (-2 - why).toNat + 1)
def CR (I : zI) (hs : Nat → Nat → Int) (hn : Nat) (ct tx : Nat → Int) (tl : Nat) : Prop := (HsAt I hs hn ∧ ∀ k, k < hn → OKv (hs k)) ∧ (∀ j, j < 3 → I 2 (7 + j) = ct j) ∧ TX I tx tl ∧ SOK I ∧ ∀ j, j < 16 → I 0 j = rimI j
def CI (I : zI) (v : Nat → Int) (hs : Nat → Nat → Int) (hn : Nat) (ct tx : Nat → Int) (tl : Nat) : Prop := StAt I 3 v ∧ OKv v ∧ CR I hs hn ct tx tl
def FrC (I J : zI) : Prop := ∀ q, q < 2 ∨ 137 ≤ q → J q = I q
theorem FrC.rf {I : zI} : FrC I I := fun _ _ => rfl
theorem FrC.tr {I J K : zI} (h1 : FrC I J) (h2 : FrC J K) : FrC I K := fun q hq => (h2 q hq).trans (h1 q hq)
theorem SOK.fr {I J : zI} (h : SOK I) (hj : ∀ q, 37 ≤ q → q < 75 → J q = I q) : SOK J := by
  obtain ⟨n, c, h1, h2⟩ := h
  exact ⟨n, c, h1.fr hj, h2⟩
theorem CR.fr {I J : zI} {hs : Nat → Nat → Int} {hn : Nat} {ct tx : Nat → Int} {tl : Nat} (h : CR I hs hn ct tx tl) (hj : ∀ q, (q = 0 ∨ q = 2 ∨ (11 ≤ q ∧ q < 75) ∨ q = 83 ∨ q = 84) → J q = I q) : CR J hs hn ct tx tl := by
  obtain ⟨⟨h1, h2⟩, h3, h4, h5, h6⟩ := h
  refine ⟨⟨h1.fr (fun q a b => hj q (by omega)), h2⟩, fun j hj2 => by rw [hj 2 (by omega)]; exact h3 j hj2, h4.fr (by rw [hj 83 (by omega)]) (hj 84 (by omega)), h5.fr (fun q a b => hj q (by omega)), fun j hj2 => by rw [hj 0 (by omega)]; exact h6 j hj2⟩
theorem SDat.ok {I : zI} {v : Nat → Int} (h : SDat I (v 0).toNat (vcel v)) (ho : OKv v) : SOK I := by
  refine ⟨(v 0).toNat, fun p => v (1 + p), h, fun p hp => ho.2.1 p (by have := ho.1; omega)⟩
theorem CR.side {I J : zI} {hs : Nat → Nat → Int} {hn : Nat} {ct tx : Nat → Int} {tl : Nat} (h : CR I hs hn ct tx tl) (hs2 : SOK J) (hj : ∀ q, (q < 37 ∨ 75 ≤ q) → J q = I q) : CR J hs hn ct tx tl := by
  obtain ⟨⟨h1, h2⟩, h3, h4, h5, h6⟩ := h
  refine ⟨⟨h1.fr (fun q a b => hj q (by omega)), h2⟩, fun j hj2 => by rw [hj 2 (by omega)]; exact h3 j hj2, h4.fr (by rw [hj 83 (by omega)]) (hj 84 (by omega)), hs2, fun j hj2 => by rw [hj 0 (by omega)]; exact h6 j hj2⟩
theorem StAt.fq {I J : zI} {a : Nat} {v : Nat → Int} (h : StAt I a v) (hj : ∀ q, a ≤ q → q < a + 4 → J q = I q) : StAt J a v := h.fr (hj _ (by omega) (by omega)) (hj _ (by omega) (by omega)) (hj _ (by omega) (by omega)) (hj _ (by omega) (by omega))
def mhs (z : Int) (v : Nat → Int) (hs : Nat → Nat → Int) (hn : Nat) : Nat → Nat → Int := if z < 0 then hs else hpush hs hn v
def mhn (z : Int) (hn : Nat) : Nat := if z < 0 then hn else if hn < 6 then hn + 1 else 6
def mct (z : Int) (ct : Nat → Int) : Nat → Int := if z < 0 then rfs ct z else ct
/-- a refusal's code, if it is one -/
abbrev why3 (z : Int) : Prop := z = -2 ∨ z = -3 ∨ z = -4
theorem hpush_ok {hs : Nat → Nat → Int} {n : Nat} {v : Nat → Int} (h : ∀ k, k < n → OKv (hs k)) (hv : OKv v) (hn : n ≤ 6) : ∀ k, k < (if n < 6 then n + 1 else 6) → OKv (hpush hs n v k) := by
  intro k hk
  unfold hpush
  by_cases h6 : n < 6
  · rw [if_pos h6] at hk ⊢
    by_cases hkn : k = n
    · rw [if_pos hkn]
      exact hv
    · rw [if_neg hkn]
      exact h k (by omega)
  · rw [if_neg h6] at hk ⊢
    by_cases hk5 : k = 5
    · rw [if_pos hk5]
      exact hv
    · rw [if_neg hk5]
      exact h (k + 1) (by omega)
theorem rcv2 {q : zP} {L : Nat} {I : zI} {as : List zV} (h : (zM_ (zpA q)).1.cls = (zCl.getD 7 zCd).1) : zrcv q (mS L I) (vR 2 :: as) = true := rcv (n := 10) (c := 7) rfl ⟨by decide, by omega, h.symm⟩
theorem rcv3 {q : zP} {L : Nat} {I : zI} {as : List zV} (h : (zM_ (zpA q)).1.cls = (zCl.getD 5 zCd).1) : zrcv q (mS L I) (vR 3 :: as) = true := rcv (n := 3) (c := 5) rfl ⟨by decide, by omega, h.symm⟩
theorem rcv5 {q : zP} {L : Nat} {I : zI} {as : List zV} (h : (zM_ (zpA q)).1.cls = (zCl.getD 3 zCd).1) : zrcv q (mS L I) (vR 5 :: as) = true := rcv (n := 3) (c := 3) rfl ⟨by decide, by omega, h.symm⟩
theorem rcv7 {q : zP} {L : Nat} {I : zI} {as : List zV} (h : (zM_ (zpA q)).1.cls = (zCl.getD 5 zCd).1) : zrcv q (mS L I) (vR 7 :: as) = true := rcv (n := 3) (c := 5) rfl ⟨by decide, by omega, h.symm⟩
theorem rcv11 {q : zP} {L : Nat} {I : zI} {as : List zV} (h : (zM_ (zpA q)).1.cls = (zCl.getD 1 zCd).1) : zrcv q (mS L I) (vR 11 :: as) = true := rcv (n := 3) (c := 1) rfl ⟨by decide, by omega, h.symm⟩
theorem rcv37 {q : zP} {L : Nat} {I : zI} {as : List zV} (h : (zM_ (zpA q)).1.cls = (zCl.getD 4 zCd).1) : zrcv q (mS L I) (vR 37 :: as) = true := rcv (n := 6) (c := 4) rfl ⟨by decide, by omega, h.symm⟩
theorem rcv81 {q : zP} {L : Nat} {I : zI} {as : List zV} (h : (zM_ (zpA q)).1.cls = (zCl.getD 2 zCd).1) : zrcv q (mS L I) (vR 81 :: as) = true := rcv (n := 2) (c := 2) rfl ⟨by decide, by omega, h.symm⟩
theorem rcv75 {q : zP} {L : Nat} {I : zI} {as : List zV} (h : (zM_ (zpA q)).1.cls = (zCl.getD 0 zCd).1) : zrcv q (mS L I) (vR 75 :: as) = true := rcv (n := 6) (c := 0) rfl ⟨by decide, by omega, h.symm⟩
theorem St3 : IsSt 3 := Or.inl rfl
theorem St7 : IsSt 7 := Or.inr (Or.inl rfl)
theorem IsR5 : IsR 5 := Or.inl rfl
section CL
variable {L d : Nat} {I : zI} {v : Nat → Int} {hs : Nat → Nat → Int} {hn : Nat} {ct tx : Nat → Int} {tl : Nat}
theorem c_fail0 {w : Int} (hw : why3 w) : Ev L d k_X7_fail [vR 2, vI w] I (some (vI w)) (zup2 I 2 (7 + (-2 - w).toNat) (I 2 (7 + (-2 - w).toNat) + 1)) := by
  show Go L d k_X7_fail 0 [some (vR 2), some (vI w)] [] I _
  rcases hw with rfl | rfl | rfl
  · refine g_l 1 rfl rfl ?_
    refine g_p 3 rfl rfl ?_
    refine g_ic_ne rfl (by omega) (by omega) (fun h => ?_) (fun h => ?_)
    · exact absurd rfl h
    · refine g_l 7 rfl rfl ?_
      refine g_p 8 rfl rfl ?_
      refine g_fi rfl rfl ⟨⟨by decide, by omega, by decide⟩, by decide⟩ ?_
      refine g_p 12 rfl rfl ?_
      refine g_p 13 rfl rfl ?_
      refine g_wi rfl rfl ⟨⟨by decide, by omega, by decide⟩, by decide⟩ ?_
      refine g_goto rfl ?_
      refine g_l 55 rfl rfl ?_
      exact g_ret rfl rfl ⟨rfl, rfl⟩
  · refine g_l 1 rfl rfl ?_
    refine g_p 3 rfl rfl ?_
    refine g_ic_ne rfl (by omega) (by omega) (fun h => ?_) (fun h => ?_)
    · refine g_l 20 rfl rfl ?_
      refine g_p 22 rfl rfl ?_
      refine g_ic_ne rfl (by omega) (by omega) (fun h2 => ?_) (fun h2 => ?_)
      · exact absurd rfl h2
      · refine g_l 26 rfl rfl ?_
        refine g_p 27 rfl rfl ?_
        refine g_fi rfl rfl ⟨⟨by decide, by omega, by decide⟩, by decide⟩ ?_
        refine g_p 31 rfl rfl ?_
        refine g_p 32 rfl rfl ?_
        refine g_wi rfl rfl ⟨⟨by decide, by omega, by decide⟩, by decide⟩ ?_
        refine g_goto rfl ?_
        refine g_l 55 rfl rfl ?_
        exact g_ret rfl rfl ⟨rfl, rfl⟩
    · exact absurd h (by decide)
  · refine g_l 1 rfl rfl ?_
    refine g_p 3 rfl rfl ?_
    refine g_ic_ne rfl (by omega) (by omega) (fun h => ?_) (fun h => ?_)
    · refine g_l 20 rfl rfl ?_
      refine g_p 22 rfl rfl ?_
      refine g_ic_ne rfl (by omega) (by omega) (fun h2 => ?_) (fun h2 => ?_)
      · refine g_l 39 rfl rfl ?_
        refine g_p 41 rfl rfl ?_
        refine g_ic_ne rfl (by omega) (by omega) (fun h3 => ?_) (fun h3 => ?_)
        · exact absurd rfl h3
        · refine g_l 45 rfl rfl ?_
          refine g_p 46 rfl rfl ?_
          refine g_fi rfl rfl ⟨⟨by decide, by omega, by decide⟩, by decide⟩ ?_
          refine g_p 50 rfl rfl ?_
          refine g_p 51 rfl rfl ?_
          refine g_wi rfl rfl ⟨⟨by decide, by omega, by decide⟩, by decide⟩ ?_
          refine g_l 55 rfl rfl ?_
          exact g_ret rfl rfl ⟨rfl, rfl⟩
      · exact absurd h2 (by decide)
    · exact absurd h (by decide)
theorem CR.rfs {w : Int} (h : CR I hs hn ct tx tl) (hw : why3 w) : CR (zup2 I 2 (7 + (-2 - w).toNat) (I 2 (7 + (-2 - w).toNat) + 1)) hs hn (rfs ct w) tx tl := by
  obtain ⟨⟨h1, h2⟩, h3, h4, h5, h6⟩ := h
  refine ⟨⟨h1.fr (fun q a b => zup2_ne (by omega)), h2⟩, fun j hj => ?_, h4.fr (by rw [zup2_ne (by omega)]) (zup2_ne (by omega)), h5.fr (fun q a b => zup2_ne (by omega)), fun j hj => by rw [zup2_ne (by omega)]; exact h6 j hj⟩
  show _ = zup ct (-2 - w).toNat (ct (-2 - w).toNat + 1) j
  generalize hk : (-2 - w).toNat = k
  have hk3 : k < 3 := by omega
  by_cases hjk : j = k
  · rw [hjk, zup2_at, zup_s, h3 k hk3]
  · rw [zup2_an (by omega), zup_n hjk]
    exact h3 j hj
end CL
