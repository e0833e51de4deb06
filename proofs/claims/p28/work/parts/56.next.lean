/-! THE LAW: isNext -/
abbrev tab4 (v : Nat → Int) : Prop := (v 9 = 1 ∧ v 10 = 8) ∨ (v 9 = 2 ∧ v 10 = 4) ∨ (v 9 = 3 ∧ v 10 = 2) ∨ (v 9 = 4 ∧ v 10 = 2)
theorem nx_law {v : Nat → Int} {tu : Int} (ho : OKv v) (ht : tu = 0 ∨ tu = 1) (hw : tab4 v) : (nxA v tu 0 = -1 ∧ nxA v tu 1 = -1 ∧ nxA v tu 2 = -1 ∧ (lyg v = fS v ∨ lyg v = v 0)) ∨ ∃ P C : Nat, nxA v tu 0 = (P : Int) ∧ nxA v tu 1 = (C : Int) ∧ nxA v tu 2 = adA v P C ∧ (P : Int) < fS v ∧ C < 4 * fN v ∧ cgP v P ∧ alC v tu C ∧ ∀ p : Nat, (p : Int) < fS v → cgP v p → ∀ c, c < 4 * fN v → alC v tu c → adA v P C ≤ adA v p c ∧ (p < P ∨ p = P ∧ c < C → adA v P C < adA v p c) := by
  by_cases hR : (nxR v tu).2.1 = -1
  · have e : ∀ w, nxA v tu w = -1 := fun w => by
      unfold nxA
      rw [if_pos (Or.inl hR)]
      exact hR
    exact Or.inl ⟨e 0, e 1, e 2, nx_no ho ht hw hR⟩
  · rcases nx_all v tu with ⟨a, b⟩ | ⟨P, C, a1, a2, a3, a4, a5, a6⟩
    · exact absurd a hR
    · refine Or.inr ⟨P, C, ?_, ?_, ?_, a1, a2, a3, a4, a6⟩
      · unfold nxA
        rw [if_pos (Or.inr rfl)]
        show (nxR v tu).2.1 = _
        rw [a5]
      · unfold nxA
        rw [if_neg (fun z => by rcases z with z | z; exact hR z; exact absurd z (by decide)), if_pos rfl]
        show (nxR v tu).2.2 = _
        rw [a5]
      · unfold nxA
        rw [if_neg (fun z => by rcases z with z | z; exact hR z; exact absurd z (by decide)), if_neg (by decide)]
        show (nxR v tu).1 = _
        rw [a5]
theorem pl_put {v : Nat → Int} {p : Nat} {x : Int} (ho : OKv (vPut v p x)) (hp : (p : Int) < fS v) (h8 : v 0 ≤ 8) (hx : x ≠ -1) : pl (vc (vPut v p x)) (fS (vPut v p x)) (x / 4) = (p : Int) := by
  have hS := (put_same v p x h8).2.2.2.2.2
  have hf := fS_rng ho
  have ex : vPut v p x (11 + p) = x := zup_s
  have a := pl_spec (vc (vPut v p x)) (x / 4) (fS (vPut v p x)).toNat 0 ⟨p, by omega, by omega, by show vPut v p x (11 + p) ≠ -1; rw [ex]; exact hx, by show vPut v p x (11 + p) / 4 = x / 4; rw [ex]⟩
  rcases pl_rng (c := vc (vPut v p x)) (n := fS (vPut v p x)) (k := x / 4) (by omega) with h | ⟨h1, h2, h3, h4⟩
  · exact absurd h a
  · obtain ⟨j, hj⟩ := Int.eq_ofNat_of_zero_le h1
    rw [hj, Int.toNat_natCast] at h3 h4
    have h3 : vPut v p x (11 + j) ≠ -1 := h3
    have h4 : vPut v p x (11 + j) / 4 = x / 4 := h4
    rw [hj]
    by_cases hjp : j = p
    · rw [hjp]
    · have c1 := ho.2.2.2.1 j (by omega)
      have c2 := ho.2.2.2.1 p (by omega)
      rw [ex] at c2
      have c3 := ho.2.2.2.2 j p (by omega) (by omega) hjp (by omega) (by rw [ex]; omega)
      rw [ex] at c3
      exact absurd h4 c3
theorem ok_vput {v : Nat → Int} {p k t : Nat} (ho : OKv v) (hp : (p : Int) < fS v) (hk : k < fN v) (ht : t < 4) (hv : v (11 + p) = -1) (hf : frP v ((k : Nat) : Int)) : OKv (vPut v p ((4 * k + t : Nat) : Int)) := by
  have h := ok_put (p := (p : Int)) (k := (k : Int)) (t := (t : Int)) ho
  have h1 := fN_le ho
  unfold sPut at h
  rw [if_pos ⟨⟨by omega, hp⟩, ⟨by omega, by omega⟩, by omega, by omega⟩, Int.toNat_natCast, if_pos ⟨hv, hf⟩, show 4 * (k : Int) + (t : Int) = ((4 * k + t : Nat) : Int) by omega] at h
  exact h
section NL
variable {L d n : Nat} {I : zI} {v : Nat → Int}
set_option maxRecDepth 16384 in
theorem nx_fin {tu : Int} {P C : Nat} {J : zI} {n1 : Nat} {o9 o10 o11 o12 o13 o14 o15 : Option zV} (ho : OKv v) (hP : (P : Int) < fS v) (hC : C < 4 * fN v) (hg : cgP v P) (ha : alC v tu C) (hJ : Lst J v n1) (hn : n ≤ n1) (hF : FrC I J) : Go L (d + 7) k_L_isNext 466 ([some (vR 2), some (vI tu), some (vI (P : Int)), some (vI (C : Int)), some (vI (adA v P C)), some (vI (csA v)), some (vI (fS v)), some (vI (lyg v)), some (vI 1), o9, o10, o11, o12, o13, o14, o15]) [] J (fun r J => r = some (vI 1) ∧ FrC I J ∧ ∃ (v' : Nat → Int) (n' : Nat), Lst J v' n' ∧ (v' 0 = v 0 ∧ v' 9 = v 9 ∧ v' 10 = v 10) ∧ n ≤ n' ∧ (lyg v < fS v ∧ lyg v < v 0 → lyg v' = lyg v + 1 ∧ (n < n' ∨ n' = 6)) ∧ (¬ (lyg v < fS v ∧ lyg v < v 0) → lyg v' = lyg v)) := by
  have hok : OKv (vPut v P ((4 * (C / 4) + C % 4 : Nat) : Int)) := ok_vput ho hP (by omega) (by omega) hg.1 ha.2
  have hputs := fun J (hJ : Lst J v n1) => z_puts (L := L) (d := d) (x := (P : Int)) (y := (C : Int) / 4) (z := (C : Int) % 4) P (C / 4) (C % 4) hJ rfl (by omega) (by omega) hP (by omega) (by omega) hg.1 ha.2
  rw [show ((4 * (C / 4) + C % 4 : Nat) : Int) = (C : Int) by omega] at hok hputs
  have hS := put_same v P (C : Int) ho.1.2
  have hN := fN_le ho
  have hfS := fS_rng ho
  have hpl := pl_put hok hP ho.1.2 (by omega)
  have hr := adA_nn v P C
  have hly := nx_yes ho hP hC hg ha
  have hlp := ly_put (x := (C : Int)) ho hP hg.1 (by omega)
  refine g_l 468 rfl rfl ?_
  refine g_if_eq rfl (by omega) (fun g1 => ?_) (fun g1 => ?_)
  · exact absurd g1 (by omega)
  · refine g_l 472 rfl rfl ?_
    refine g_l 473 rfl rfl ?_
    refine g_l 474 rfl rfl ?_
    refine g_p 475 rfl rfl ?_
    refine g_div 476 rfl (by omega) (by omega) ?_
    refine g_l 477 rfl rfl ?_
    refine g_p 478 rfl rfl ?_
    refine g_rem 479 rfl (by omega) (by omega) ?_
    refine g_call rfl (hputs J hJ) (fun r J1 hJ1 => ?_) (hr := rcv2 rfl)
    obtain ⟨rfl, hJ1, f1⟩ := hJ1
    refine g_l 484 rfl rfl ?_
    refine g_ic_ne rfl (by omega) (by omega) (fun g2 => ?_) (fun g2 => ?_)
    · exact absurd rfl g2
    · refine g_l 488 rfl rfl ?_
      refine g_l 489 rfl rfl ?_
      refine g_call rfl (q_at P hJ1 rfl (by rw [hS.2.2.2.2.2]; exact hP)) (fun r J2 hJ2 => ?_) (hr := rcv2 rfl)
      obtain ⟨rfl, hJ2, f2⟩ := hJ2
      rw [show vPut v P (C : Int) (11 + P) = (C : Int) from zup_s]
      refine g_l 493 rfl rfl ?_
      refine g_ic_ne rfl (by omega) (by omega) (fun g3 => ?_) (fun g3 => ?_)
      · exact absurd rfl g3
      · refine g_l 497 rfl rfl ?_
        refine g_l 498 rfl rfl ?_
        refine g_p 499 rfl rfl ?_
        refine g_div 500 rfl (by omega) (by omega) ?_
        refine g_p 501 rfl rfl ?_
        refine g_call rfl (q_of (C / 4) hJ2 (by omega) (by rw [hS.1]; omega) (by omega)) (fun r J3 hJ3 => ?_) (hr := rcv2 rfl)
        obtain ⟨rfl, hJ3, f3⟩ := hJ3
        have e : ofA (vPut v P (C : Int)) (C / 4) 3 = (P : Int) := by
          have e1 : ofA (vPut v P (C : Int)) (C / 4) 3 = pl (vc (vPut v P (C : Int))) (fS (vPut v P (C : Int))) ((C / 4 : Nat) : Int) := rfl
          rw [e1, show ((C / 4 : Nat) : Int) = (C : Int) / 4 by omega]
          exact hpl
        rw [e]
        refine g_l 505 rfl rfl ?_
        refine g_ic_ne rfl (by omega) (by omega) (fun g4 => ?_) (fun g4 => ?_)
        · exact absurd rfl g4
        · refine g_p 509 rfl rfl ?_
          refine g_goto rfl ?_
          have hm := mh_le hJ.n6
          refine g_retb rfl rfl (Or.inr rfl) ⟨rfl, ((hF.tr f1).tr f2).tr f3, _, _, hJ3, ⟨hS.1, hS.2.1, hS.2.2.1⟩, by omega, fun _ => ⟨hlp, by omega⟩, fun z => absurd hly z⟩
set_option maxRecDepth 16384 in
theorem nx_try {tu : Int} {P C p k t : Nat} {b : Int} {J : zI} {n1 : Nat} {o11 o13 o14 o15 : Option zV} {Q : Option zV → zI → Prop} (ho : OKv v) (hp : (p : Int) < fS v) (hk : k < fN v) (ht : t < 4) (hv : v (11 + p) = -1) (hf : frP v ((k : Nat) : Int)) (hP : (P : Int) < fS v) (hC : C < 4 * fN v)
    (hb : b = 0 ∨ b = 1) (hmin : b = 1 → adA v P C ≤ adA v p ((4 * k + t : Nat) : Int) ∧ (p < P ∨ p = P ∧ 4 * k + t < C → adA v P C < adA v p ((4 * k + t : Nat) : Int))) (hJ : Lst J v n1)
    (next : ∀ (M : zI) (n2 : Nat) (o11 o12 o13 o14 o15 : Option zV), Lst M v n2 → n1 ≤ n2 → FrC J M → Go L (d + 7) k_L_isNext 454 ([some (vR 2), some (vI tu), some (vI (P : Int)), some (vI (C : Int)), some (vI (adA v P C)), some (vI (csA v)), some (vI (fS v)), some (vI (lyg v)), some (vI 1), some (vI p), some (vI k), o11, o12, o13, o14, o15]) [] M Q) : Go L (d + 7) k_L_isNext 325 ([some (vR 2), some (vI tu), some (vI (P : Int)), some (vI (C : Int)), some (vI (adA v P C)), some (vI (csA v)), some (vI (fS v)), some (vI (lyg v)), some (vI 1), some (vI p), some (vI k), o11, some (vI b), o13, o14, o15]) [vI (t : Int)] J Q := by
  have hok := ok_vput ho hp hk ht hv hf
  have hputs := z_puts (L := L) (d := d) (x := (p : Int)) (y := (k : Int)) (z := (t : Int)) p k t hJ rfl rfl rfl hp hk ht hv hf
  have hS := put_same v p ((4 * k + t : Nat) : Int) ho.1.2
  have hcs := cs_put (x := ((4 * k + t : Nat) : Int)) ho hok hv (by omega) hp
  have hpt := put_take v p ((4 * k + t : Nat) : Int) hv
  have ex : vPut v p ((4 * k + t : Nat) : Int) (11 + p) = ((4 * k + t : Nat) : Int) := zup_s
  have hr := adA_nn v p ((4 * k + t : Nat) : Int)
  have hr2 := adA_nn v P C
  have hN := fN_le ho
  have hfr := fS_rng ho
  have rc : ∀ u, OKv u → 0 ≤ csA u ∧ csA u ≤ 384 := fun u hu => by
    have h1 := wcF_rng (fC u) (vc u) (u 9) (fS u) (fS u).toNat 0
    have h2 := fS_rng hu
    unfold csA
    omega
  have r1 := rc v ho
  have r2 := rc _ hok
  generalize hD : adA v p ((4 * k + t : Nat) : Int) = D at hputs hcs hr hmin
  generalize adA v P C = G at hmin hr2 next ⊢
  have tail : ∀ (o15 : Option zV) (M : zI) (n2 : Nat), Lst M v n2 → n1 ≤ n2 → FrC J M → Go L (d + 7) k_L_isNext 393 ([some (vR 2), some (vI tu), some (vI (P : Int)), some (vI (C : Int)), some (vI G), some (vI (csA v)), some (vI (fS v)), some (vI (lyg v)), some (vI 1), some (vI p), some (vI k), o11, some (vI b), some (vI t), some (vI D), o15]) [vI 1] M Q := fun o15 M n2 hM hn2 hF => by
    have fin : ∀ (a : Int), (a = 0 ∨ a = 1) → (a = 1 → p < P ∨ p = P ∧ 4 * k + t < C) → Go L (d + 7) k_L_isNext 423 ([some (vR 2), some (vI tu), some (vI (P : Int)), some (vI (C : Int)), some (vI G), some (vI (csA v)), some (vI (fS v)), some (vI (lyg v)), some (vI 1), some (vI p), some (vI k), o11, some (vI b), some (vI t), some (vI D), o15]) [vI a] M Q := fun a ha1 ha2 => by
      have ok : ∀ o15 : Option zV, Go L (d + 7) k_L_isNext 447 ([some (vR 2), some (vI tu), some (vI (P : Int)), some (vI (C : Int)), some (vI G), some (vI (csA v)), some (vI (fS v)), some (vI (lyg v)), some (vI 1), some (vI p), some (vI k), o11, some (vI b), some (vI t), some (vI D), o15]) [] M Q := fun o15 => by
        refine g_p 448 rfl rfl ?_
        refine g_goto rfl ?_
        refine g_l 454 rfl rfl ?_
        refine Go.lv (rfl : _ = [_, _, _, _, _, _, _, _, _, _, _, _, _, _, _, _]) ?_
        exact next M n2 _ _ _ _ _ hM hn2 hF
      refine g_l 425 rfl rfl ?_
      refine Go.lv (rfl : _ = [_, _, _, _, _, _, _, _, _, _, _, _, _, _, _, _]) ?_
      refine g_l 427 rfl rfl ?_
      refine g_if_eq rfl (by omega) (fun g1 => ?_) (fun g1 => ?_)
      · exact absurd g1 (by omega)
      · refine g_l 432 rfl rfl ?_
        refine g_if_eq rfl (by omega) (fun g2 => ?_) (fun g2 => ?_)
        · exact ok _
        · refine g_l 437 rfl rfl ?_
          refine g_if_eq rfl (by omega) (fun g3 => ?_) (fun g3 => ?_)
          · exact ok _
          · have hb1 : b = 1 := by omega
            have hlt := (hmin hb1).2 (ha2 (by omega))
            refine g_l 442 rfl rfl ?_
            refine g_l 444 rfl rfl ?_
            refine g_ic_le rfl (by omega) (by omega) (fun g4 => ?_) (fun g4 => ?_)
            · exact absurd g4 (by omega)
            · exact ok _
    refine g_l 395 rfl rfl ?_
    refine Go.lv (rfl : _ = [_, _, _, _, _, _, _, _, _, _, _, _, _, _, _, _]) ?_
    refine g_l 397 rfl rfl ?_
    refine g_l 398 rfl rfl ?_
    refine g_ic_lt rfl (by omega) (by omega) (fun g1 => ?_) (fun g1 => ?_)
    · refine g_p 419 rfl rfl ?_
      refine g_goto rfl ?_
      exact fin 1 (Or.inr rfl) (fun _ => Or.inl (by omega))
    · refine g_l 403 rfl rfl ?_
      refine g_l 404 rfl rfl ?_
      refine g_ic_ne rfl (by omega) (by omega) (fun g2 => ?_) (fun g2 => ?_)
      · refine g_p 423 rfl rfl ?_
        exact fin 0 (Or.inl rfl) (fun z => absurd z (by decide))
      · refine g_p 408 rfl rfl ?_
        refine g_l 410 rfl rfl ?_
        refine g_p 411 rfl rfl ?_
        refine g_l 413 rfl rfl ?_
        refine g_p 414 rfl rfl ?_
        refine g_l 415 rfl rfl ?_
        refine g_ic_ge rfl (by omega) (by omega) (fun g3 => ?_) (fun g3 => ?_)
        · refine g_p 423 rfl rfl ?_
          exact fin 0 (Or.inl rfl) (fun z => absurd z (by decide))
        · refine g_p 419 rfl rfl ?_
          refine g_goto rfl ?_
          exact fin 1 (Or.inr rfl) (fun _ => Or.inr ⟨by omega, by omega⟩)
  refine g_l 327 rfl rfl ?_
  refine Go.lv (rfl : _ = [_, _, _, _, _, _, _, _, _, _, _, _, _, _, _, _]) ?_
  refine g_l 328 rfl rfl ?_
  refine g_l 330 rfl rfl ?_
  refine g_l 332 rfl rfl ?_
  refine g_l 334 rfl rfl ?_
  refine g_call rfl hputs (fun r J1 hJ1 => ?_) (hr := rcv2 rfl)
  obtain ⟨rfl, hJ1, f1⟩ := hJ1
  have m1 := mh_le hJ.n6
  have m2 := mh_le hJ1.n6
  refine g_l 339 rfl rfl ?_
  refine Go.lv (rfl : _ = [_, _, _, _, _, _, _, _, _, _, _, _, _, _, _, _]) ?_
  refine g_l 341 rfl rfl ?_
  refine g_if_eq rfl (by omega) (fun g1 => ?_) (fun g1 => ?_)
  · exact absurd g1 (by omega)
  · refine g_l 345 rfl rfl ?_
    refine g_call rfl (q_cost hJ1) (fun r J2 hJ2 => ?_) (hr := rcv2 rfl)
    obtain ⟨rfl, hJ2, f2⟩ := hJ2
    refine g_l 350 rfl rfl ?_
    refine g_l 352 rfl rfl ?_
    refine g_p 353 rfl rfl ?_
    refine g_ic_ne rfl (by omega) (by omega) (fun g2 => ?_) (fun g2 => ?_)
    · exact absurd hcs g2
    · have takes : ∀ o15 : Option zV, Go L (d + 7) k_L_isNext 368 ([some (vR 2), some (vI tu), some (vI (P : Int)), some (vI (C : Int)), some (vI G), some (vI (csA v)), some (vI (fS v)), some (vI (lyg v)), some (vI 1), some (vI p), some (vI k), o11, some (vI b), some (vI t), some (vI D), o15]) [] J2 Q := fun o15 => by
        refine g_l 369 rfl rfl ?_
        refine g_l 371 rfl rfl ?_
        refine g_call rfl (z_takes p hJ2 rfl (by rw [hS.2.2.2.2.2]; exact hp) (by rw [ex]; omega)) (fun r J3 hJ3 => ?_) (hr := rcv2 rfl)
        obtain ⟨rfl, hJ3, f3⟩ := hJ3
        rw [hpt] at hJ3
        rw [ex]
        refine g_l 376 rfl rfl ?_
        refine g_ic_ne rfl (by omega) (by omega) (fun g4 => ?_) (fun g4 => ?_)
        · exact absurd (show ((4 * k + t : Nat) : Int) / 4 = (k : Int) by omega) g4
        · refine g_l 380 rfl rfl ?_
          refine g_call rfl (q_cost hJ3) (fun r J4 hJ4 => ?_) (hr := rcv2 rfl)
          obtain ⟨rfl, hJ4, f4⟩ := hJ4
          refine g_l 385 rfl rfl ?_
          refine g_ic_ne rfl (by omega) (by omega) (fun g5 => ?_) (fun g5 => ?_)
          · exact absurd rfl g5
          · refine g_p 389 rfl rfl ?_
            refine g_goto rfl ?_
            exact tail _ J4 _ hJ4 (by omega) (((f1.tr f2).tr f3).tr f4)
      refine g_l 358 rfl rfl ?_
      refine g_if_eq rfl (by omega) (fun g3 => ?_) (fun g3 => ?_)
      · exact takes _
      · have hb1 : b = 1 := by omega
        have hle := (hmin hb1).1
        refine g_l 363 rfl rfl ?_
        refine g_l 365 rfl rfl ?_
        refine g_ic_lt rfl (by omega) (by omega) (fun g4 => ?_) (fun g4 => ?_)
        · exact absurd g4 (by omega)
        · exact takes _
end NL
