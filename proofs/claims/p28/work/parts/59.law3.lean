/-! THE LAW: its last questions -/
section W3
variable {L d n : Nat} {J : zI} {v : Nat → Int}
set_option maxRecDepth 16384 in
theorem w_pict {N c6 : Int} {o4 o5 o7 : Option zV} (hX : ∀ j, rng (J 1 j)) (hJ : Lst J v n) : Go L (d + 20) k_L_law 640 [some (vR 1), some (vR 2), some (vI N), some (vI 1), o4, o5, some (vI c6), o7] [] J (fun r (_ : zI) => r = some (vI 1)) := by
  refine g_p 641 rfl rfl ?_
  refine g_l 642 rfl rfl ?_
  refine g_p 644 rfl rfl ?_
  refine g_call rfl (l_cell 16 hX rfl (by omega)) (fun r J0 hJ0 => ?_)
  obtain ⟨⟨z, rfl, hz⟩, rfl⟩ := hJ0
  refine g_p 648 rfl rfl ?_
  refine g_callE rfl (l_up (by omega)) ?_
  obtain ⟨j, hj, hj2⟩ := upz_nat (x := z) (m := 2) (by omega)
  rw [hj]
  refine g_p 652 rfl rfl ?_
  obtain ⟨H, hH, hH2⟩ : ∃ H : Nat, 1 + (j : Int) = (H : Int) ∧ (H = 1 ∨ H = 2) := ⟨1 + j, by omega, by omega⟩
  rw [hH]
  refine g_l 654 rfl rfl ?_
  refine Go.lv (rfl : _ = [_, _, _, _, _, _, _, _]) ?_
  refine g_l 655 rfl rfl ?_
  refine g_if_eq rfl (by omega) (fun g1 => ?_) (fun g1 => ?_)
  · exact absurd g1 (by omega)
  · refine g_l 659 rfl rfl ?_
    refine g_l 660 rfl rfl ?_
    refine g_p 662 rfl rfl ?_
    refine g_call rfl (l_cell 17 hX rfl (by omega)) (fun r J0 hJ0 => ?_)
    obtain ⟨⟨z2, rfl, hz2⟩, rfl⟩ := hJ0
    refine g_ld 667 rfl ?_
    refine g_callE rfl (l_up (by omega)) ?_
    have hs := upz_rng (x := z2) (m := 1000000) (by omega)
    generalize upz z2 1000000 = s at hs
    have hp := pict (v := v) (s := s) hH2
    refine g_p 671 rfl rfl ?_
    refine g_l 673 rfl rfl ?_
    refine g_p 674 rfl rfl ?_
    refine g_call rfl (z_makes hJ ⟨by omega, ⟨by omega, by omega, by omega⟩, Or.inl rfl⟩) (fun r J1 hJ1 => ?_) (hr := rcv2 rfl)
    obtain ⟨rfl, hJ1, f1⟩ := hJ1
    generalize vMk v s 4 (H : Int) 0 = u at hp hJ1
    obtain ⟨p1, p2, p3, p4, p5⟩ := hp
    have hgr := gpA_rng (v := u) (by omega)
    refine g_p 678 rfl rfl ?_
    refine g_l 680 rfl rfl ?_
    refine g_p 681 rfl rfl ?_
    refine g_ic_ne rfl (by omega) (by omega) (fun g2 => ?_) (fun g2 => ?_)
    · exact absurd rfl g2
    · refine g_l 685 rfl rfl ?_
      refine g_p 686 rfl rfl ?_
      refine g_l 688 rfl rfl ?_
      refine g_p 689 rfl rfl ?_
      refine g_p 690 rfl rfl ?_
      refine g_p 691 rfl rfl ?_
      refine g_call rfl (q_joins (w := 4) (g := (H : Int)) (tu := 0) (fr := 1) hJ1 (by omega) (by omega) (by omega) (Or.inl rfl) (Or.inr rfl)) (fun r J2 hJ2 => ?_) (hr := rcv2 rfl)
      obtain ⟨rfl, hJ2, f2⟩ := hJ2
      rw [p3]
      refine g_if_ne rfl (by omega) (fun g3 => ?_) (fun g3 => ?_)
      · exact absurd rfl g3
      · refine g_l 698 rfl rfl ?_
        refine g_call rfl (q_cost hJ2) (fun r J3 hJ3 => ?_) (hr := rcv2 rfl)
        obtain ⟨rfl, hJ3, f3⟩ := hJ3
        rw [p4]
        refine g_if_ne rfl (by omega) (fun g4 => ?_) (fun g4 => ?_)
        · exact absurd rfl g4
        · refine g_l 705 rfl rfl ?_
          refine g_call rfl (q_groups hJ3) (fun r J4 hJ4 => ?_) (hr := rcv2 rfl)
          obtain ⟨rfl, hJ4, f4⟩ := hJ4
          refine g_p 709 rfl rfl ?_
          refine g_l 711 rfl rfl ?_
          refine g_p 712 rfl rfl ?_
          refine g_ic_gt rfl (by omega) (by omega) (fun g5 => ?_) (fun g5 => ?_)
          · exact absurd g5 (by omega)
          · refine g_l 716 rfl rfl ?_
            refine g_p 717 rfl rfl ?_
            refine g_p 718 rfl rfl ?_
            refine g_call rfl (q_of 0 hJ4 rfl (by omega) (by omega)) (fun r J5 hJ5 => ?_) (hr := rcv2 rfl)
            obtain ⟨rfl, hJ5, f5⟩ := hJ5
            have yes : ∀ J : zI, Go L (d + 20) k_L_law 735 [some (vR 1), some (vR 2), some (vI N), some (vI 1), o4, o5, some (vI c6), some (vI (H : Int))] [] J (fun r (_ : zI) => r = some (vI 1)) := fun J => by
              refine g_p 736 rfl rfl ?_
              refine g_goto rfl ?_
              exact g_retb rfl rfl (Or.inr rfl) rfl
            have p6 := p5.1
            have p7 := p5.2
            refine g_l 723 rfl rfl ?_
            refine g_p 724 rfl rfl ?_
            refine g_ic_ne rfl (by omega) (by omega) (fun g6 => ?_) (fun g6 => ?_)
            · rw [if_neg (show ¬ H = 1 by omega)] at p7
              refine g_p 732 rfl rfl ?_
              refine g_ic_ge rfl (by omega) (by omega) (fun g7 => ?_) (fun g7 => ?_)
              · exact absurd g7 (by omega)
              · exact yes J5
            · rw [if_pos (show H = 1 by omega)] at p7
              refine g_p 728 rfl rfl ?_
              refine g_goto rfl ?_
              refine g_ic_ge rfl (by omega) (by omega) (fun g7 => ?_) (fun g7 => ?_)
              · exact absurd g7 (by omega)
              · exact yes J5
set_option maxRecDepth 16384 in
theorem w_drop {N : Nat} {c6 : Int} {o4 o5 o7 : Option zV} (hX : ∀ j, rng (J 1 j)) (hJ : Lst J v 6) (hN : v 0 = (N : Int)) (h2 : 2 ≤ N) (h9 : v 9 = (N : Int)) (h10 : v 10 = 1) (hc : ∀ j : Nat, j < N → v (11 + j) = 4 * (j : Int)) (h6 : c6 = csA v) : Go L (d + 20) k_L_law 553 [some (vR 1), some (vR 2), some (vI (N : Int)), some (vI 1), o4, o5, some (vI c6), o7] [] J (fun r (_ : zI) => r = some (vI 1)) := by
  obtain ⟨hs, ct, tx, tl, hC⟩ := hJ
  have ho := hC.2.1
  have hf := fS_rng ho
  have hNr := ho.1
  have hS : fS v = (N : Int) := by
    unfold fS
    rw [h9, h10, Int.mul_one]
  have rc : 0 ≤ csA v ∧ csA v ≤ 384 := by
    have h1 := wcF_rng (fC v) (vc v) (v 9) (fS v) (fS v).toNat 0
    unfold csA
    omega
  subst h6
  refine g_l 554 rfl rfl ?_
  refine g_if_eq rfl (by omega) (fun g1 => ?_) (fun g1 => ?_)
  · exact absurd g1 (by omega)
  · have eD : sDrop v 0 = ((N : Int) - 1, vDrop v 0) := by
      unfold sDrop
      rw [if_pos (by omega), hN]
    have hd := c_drops (L := L) (d := d + 14) (c := 0) hC (by omega)
    rw [eD] at hd
    refine g_l 558 rfl rfl ?_
    refine g_p 559 rfl rfl ?_
    refine g_call rfl hd (fun r J1 hJ1 => ?_) (hr := rcv2 rfl)
    obtain ⟨rfl, hJ1, f1⟩ := hJ1
    have e1 : mhn ((N : Int) - 1) 6 = 6 := by
      unfold mhn
      rw [if_neg (by omega), if_neg (by omega)]
    have e2 : mhs ((N : Int) - 1) v hs 6 = hpush hs 6 v := if_neg (by omega)
    have hJ1 : CI J1 (vDrop v 0) (mhs ((N : Int) - 1) v hs 6) (mhn ((N : Int) - 1) 6) (mct ((N : Int) - 1) ct) tx tl := hJ1
    rw [e1, e2] at hJ1
    have d9 : fS (vDrop v 0) = (N : Int) := hS
    have d11 : ∀ j, j < 8 → vDrop v 0 (11 + j) = rmv 0 (v (11 + j)) := fun j hj => by
      unfold vDrop
      rw [if_neg (by omega), if_neg (by omega), if_neg (by omega), if_pos (by omega)]
    refine g_l 563 rfl rfl ?_
    refine g_p 564 rfl rfl ?_
    refine g_p 565 rfl rfl ?_
    refine g_ic_ne rfl (by omega) (by omega) (fun g2 => ?_) (fun g2 => ?_)
    · exact absurd rfl g2
    · refine g_l 569 rfl rfl ?_
      refine g_p 570 rfl rfl ?_
      refine g_call rfl (pq_c (a := -1) (c_at hJ1 (by omega)) ?_) (fun r J2 hJ2 => ?_) (hr := rcv2 rfl)
      · unfold qAt
        rw [if_pos (show 0 ≤ (0 : Int) ∧ (0 : Int) < vDrop v 0 9 * vDrop v 0 10 from ⟨by omega, by have : vDrop v 0 9 * vDrop v 0 10 = (N : Int) := d9; omega⟩)]
        have := d11 0 (by omega)
        rw [hc 0 (by omega)] at this
        show (vDrop v 0 (11 + 0), (0 : Int)) = _
        rw [this]
        rfl
      · obtain ⟨rfl, hJ2, f2⟩ := hJ2
        refine g_p 574 rfl rfl ?_
        refine g_ic_ne rfl (by omega) (by omega) (fun g3 => ?_) (fun g3 => ?_)
        · exact absurd rfl g3
        · refine g_l 578 rfl rfl ?_
          refine g_p 579 rfl rfl ?_
          refine g_call rfl (pq_c (a := 0) (c_at hJ2 (by omega)) ?_) (fun r J3 hJ3 => ?_) (hr := rcv2 rfl)
          · unfold qAt
            rw [if_pos (show 0 ≤ (1 : Int) ∧ (1 : Int) < vDrop v 0 9 * vDrop v 0 10 from ⟨by omega, by have : vDrop v 0 9 * vDrop v 0 10 = (N : Int) := d9; omega⟩)]
            have := d11 1 (by omega)
            rw [hc 1 (by omega)] at this
            show (vDrop v 0 (11 + 1), (0 : Int)) = _
            rw [this]
            rfl
          · obtain ⟨rfl, hJ3, f3⟩ := hJ3
            refine g_if_ne rfl (by omega) (fun g4 => ?_) (fun g4 => ?_)
            · exact absurd rfl g4
            · refine g_l 586 rfl rfl ?_
              refine g_call rfl (c_back_y (n := 5) hJ3) (fun r J4 hJ4 => ?_) (hr := rcv2 rfl)
              obtain ⟨rfl, hJ4, f4⟩ := hJ4
              have e5 : hpush hs 6 v 5 = v := rfl
              rw [e5] at hJ4
              have hL4 : Lst J4 v 5 := ⟨_, _, _, _, hJ4⟩
              refine g_p 590 rfl rfl ?_
              refine g_ic_ne rfl (by omega) (by omega) (fun g5 => ?_) (fun g5 => ?_)
              · exact absurd rfl g5
              · refine g_l 594 rfl rfl ?_
                refine g_p 595 rfl rfl ?_
                refine g_call rfl (q_told (v 0) hL4 (by omega)) (fun r J5 hJ5 => ?_) (hr := rcv2 rfl)
                obtain ⟨rfl, hJ5, f5⟩ := hJ5
                refine g_l 599 rfl rfl ?_
                refine g_ic_ne rfl (by omega) (by omega) (fun g6 => ?_) (fun g6 => ?_)
                · exact absurd hN g6
                · refine g_l 603 rfl rfl ?_
                  refine g_p 604 rfl rfl ?_
                  refine g_call rfl (q_at 0 hJ5 rfl (by omega)) (fun r J6 hJ6 => ?_) (hr := rcv2 rfl)
                  obtain ⟨rfl, hJ6, f6⟩ := hJ6
                  rw [hc 0 (by omega)]
                  refine g_if_ne rfl (by omega) (fun g7 => ?_) (fun g7 => ?_)
                  · exact absurd (show 4 * ((0 : Nat) : Int) = 0 by omega) g7
                  · refine g_l 611 rfl rfl ?_
                    refine g_l 612 rfl rfl ?_
                    refine g_p 613 rfl rfl ?_
                    refine g_p 614 rfl rfl ?_
                    refine g_call rfl (q_at (N - 1) hJ6 (by omega) (by omega)) (fun r J7 hJ7 => ?_) (hr := rcv2 rfl)
                    obtain ⟨rfl, hJ7, f7⟩ := hJ7
                    rw [hc (N - 1) (by omega)]
                    refine g_p 618 rfl rfl ?_
                    refine g_l 619 rfl rfl ?_
                    refine g_p 620 rfl rfl ?_
                    refine g_p 621 rfl rfl ?_
                    refine g_p 622 rfl rfl ?_
                    refine g_ic_ne rfl (by omega) (by omega) (fun g8 => ?_) (fun g8 => ?_)
                    · exact absurd (show 4 * ((N - 1 : Nat) : Int) = 4 * ((N : Int) - 1) by omega) g8
                    · refine g_l 626 rfl rfl ?_
                      refine g_call rfl (q_cost hJ7) (fun r J8 hJ8 => ?_) (hr := rcv2 rfl)
                      obtain ⟨rfl, hJ8, f8⟩ := hJ8
                      refine g_l 631 rfl rfl ?_
                      refine g_ic_ne rfl (by omega) (by omega) (fun g9 => ?_) (fun g9 => ?_)
                      · exact absurd rfl g9
                      · refine g_p 635 rfl rfl ?_
                        refine g_goto rfl ?_
                        refine g_l 640 rfl rfl ?_
                        refine Go.lv (rfl : _ = [_, _, _, _, _, _, _, _]) ?_
                        refine w_pict (fun j => ?_) hJ8
                        rw [f8 1 (by omega), f7 1 (by omega), f6 1 (by omega), f5 1 (by omega), f4 1 (by omega), f3 1 (by omega), f2 1 (by omega), f1 1 (by omega)]
                        exact hX j
set_option maxRecDepth 16384 in
theorem w_join {N : Nat} {w4 : Int} {o5 o6 o7 : Option zV} (hX : ∀ j, rng (J 1 j)) (hJ : Lst J v 6) (hN : v 0 = (N : Int)) (h2 : 2 ≤ N) (h9 : v 9 = (N : Int)) (h10 : v 10 = 1) (hc : ∀ j : Nat, j < N → v (11 + j) = 4 * (j : Int)) (hcs : csA v = sgF (aI v) N) : Go L (d + 20) k_L_law 441 [some (vR 1), some (vR 2), some (vI (N : Int)), some (vI 1), some (vI w4), o5, o6, o7] [] J (fun r (_ : zI) => r = some (vI 1)) := by
  have ho := hJ.ok
  have hNr := ho.1
  have hfN := fN_le ho
  have rc : 0 ≤ csA v ∧ csA v ≤ 384 := by
    have h1 := wcF_rng (fC v) (vc v) (v 9) (fS v) (fS v).toNat 0
    have hf := fS_rng ho
    unfold csA
    omega
  have eN : fN v = N := by omega
  have j1 := jn_law (v := v) (w := (N : Int)) (by omega)
  have j2 := jn_law (v := v) (w := 1) (by omega)
  have ht := tl_aI v
  rw [eN] at ht j1
  rw [ht, ← hcs] at j1
  have q1 := fun J (hJ : Lst J v 6) => q_joins (L := L) (d := d + 6) (w := (N : Int)) (g := 1) (tu := 0) (fr := 0) hJ (by omega) (by omega) (by omega) (Or.inl rfl) (Or.inl rfl)
  have q2 := fun J (hJ : Lst J v 6) => q_joins (L := L) (d := d + 6) (w := 1) (g := (N : Int)) (tu := 0) (fr := 0) hJ (by omega) (by omega) (by omega) (Or.inl rfl) (Or.inl rfl)
  have q3 := fun J (hJ : Lst J v 6) (h4 : v 0 ≤ 4) => q_joins (L := L) (d := d + 6) (w := (N : Int)) (g := 1) (tu := 1) (fr := 0) hJ (by omega) (by omega) (by omega) (Or.inr ⟨rfl, h4⟩) (Or.inl rfl)
  have q4 := fun J (hJ : Lst J v 6) => q_joins (L := L) (d := d + 6) (w := (N : Int)) (g := 1) (tu := 0) (fr := 1) hJ (by omega) (by omega) (by omega) (Or.inl rfl) (Or.inr rfl)
  have j3 := j2.1.1
  have j4 := (tl_rng (fC v) (fN v) 1 idR (fN v) 0).2
  have j5 := j2.1.2
  generalize jnA v (N : Int) 0 0 (-1) = A at j1 q1
  generalize jnA v (N : Int) 1 0 (-1) = B at j1 q3
  generalize jnA v (N : Int) 0 1 (-1) = D at j1 q4
  generalize jnA v 1 0 0 (-1) = E at j3 j5 q2
  obtain ⟨⟨a1, a2⟩, a3, a4, a5, a6⟩ := j1
  have fin : ∀ J : zI, (∀ j, rng (J 1 j)) → Lst J v 6 → Go L (d + 20) k_L_law 541 [some (vR 1), some (vR 2), some (vI (N : Int)), some (vI 1), some (vI w4), some (vI D), o6, o7] [] J (fun r (_ : zI) => r = some (vI 1)) := fun J hX hJ => by
    refine g_p 542 rfl rfl ?_
    refine g_goto rfl ?_
    refine g_l 547 rfl rfl ?_
    refine Go.lv (rfl : _ = [_, _, _, _, _, _, _, _]) ?_
    refine g_l 548 rfl rfl ?_
    refine g_call rfl (q_cost hJ) (fun r J1 hJ1 => ?_) (hr := rcv2 rfl)
    obtain ⟨rfl, hJ1, f1⟩ := hJ1
    refine g_l 553 rfl rfl ?_
    refine Go.lv (rfl : _ = [_, _, _, _, _, _, _, _]) ?_
    exact w_drop (fun j => by rw [f1 1 (by omega)]; exact hX j) hJ1 hN h2 h9 h10 hc rfl
  have mid : ∀ J : zI, (∀ j, rng (J 1 j)) → Lst J v 6 → Go L (d + 20) k_L_law 499 [some (vR 1), some (vR 2), some (vI (N : Int)), some (vI 1), some (vI w4), o5, o6, o7] [] J (fun r (_ : zI) => r = some (vI 1)) := fun J hX hJ => by
    refine g_p 500 rfl rfl ?_
    refine g_goto rfl ?_
    refine g_l 505 rfl rfl ?_
    refine Go.lv (rfl : _ = [_, _, _, _, _, _, _, _]) ?_
    refine g_l 506 rfl rfl ?_
    refine g_l 507 rfl rfl ?_
    refine g_p 508 rfl rfl ?_
    refine g_p 509 rfl rfl ?_
    refine g_p 510 rfl rfl ?_
    refine g_p 511 rfl rfl ?_
    refine g_call rfl (q4 J hJ) (fun r J1 hJ1 => ?_) (hr := rcv2 rfl)
    obtain ⟨rfl, hJ1, f1⟩ := hJ1
    have hX1 : ∀ j, rng (J1 1 j) := fun j => by rw [f1 1 (by omega)]; exact hX j
    refine g_l 516 rfl rfl ?_
    refine Go.lv (rfl : _ = [_, _, _, _, _, _, _, _]) ?_
    refine g_l 517 rfl rfl ?_
    refine g_if_eq rfl (by omega) (fun g1 => ?_) (fun g1 => ?_)
    · exact absurd g1 (by omega)
    · refine g_l 522 rfl rfl ?_
      refine g_p 524 rfl rfl ?_
      refine g_ic_eq rfl (by omega) (by omega) (fun g2 => ?_) (fun g2 => ?_)
      · exact fin J1 hX1 hJ1
      · refine g_l 529 rfl rfl ?_
        refine g_l 530 rfl rfl ?_
        refine g_l 531 rfl rfl ?_
        refine g_p 532 rfl rfl ?_
        refine g_p 533 rfl rfl ?_
        refine g_p 534 rfl rfl ?_
        refine g_p 535 rfl rfl ?_
        refine g_call rfl (q1 J1 hJ1) (fun r J2 hJ2 => ?_) (hr := rcv2 rfl)
        obtain ⟨rfl, hJ2, f2⟩ := hJ2
        refine g_ic_lt rfl (by omega) (by omega) (fun g3 => ?_) (fun g3 => ?_)
        · exact absurd g3 (by omega)
        · exact fin J2 (fun j => by rw [f2 1 (by omega)]; exact hX1 j) hJ2
  refine g_l 442 rfl rfl ?_
  refine g_if_eq rfl (by omega) (fun g1 => ?_) (fun g1 => ?_)
  · exact absurd g1 (by omega)
  · refine g_l 446 rfl rfl ?_
    refine g_l 447 rfl rfl ?_
    refine g_p 448 rfl rfl ?_
    refine g_p 449 rfl rfl ?_
    refine g_p 450 rfl rfl ?_
    refine g_p 451 rfl rfl ?_
    refine g_call rfl (q1 J hJ) (fun r J1 hJ1 => ?_) (hr := rcv2 rfl)
    obtain ⟨rfl, hJ1, f1⟩ := hJ1
    refine g_l 455 rfl rfl ?_
    refine g_call rfl (q_cost hJ1) (fun r J2 hJ2 => ?_) (hr := rcv2 rfl)
    obtain ⟨rfl, hJ2, f2⟩ := hJ2
    refine g_ic_gt rfl (by omega) (by omega) (fun g2 => ?_) (fun g2 => ?_)
    · exact absurd g2 (by omega)
    · refine g_l 462 rfl rfl ?_
      refine g_p 463 rfl rfl ?_
      refine g_l 464 rfl rfl ?_
      refine g_p 465 rfl rfl ?_
      refine g_p 466 rfl rfl ?_
      refine g_p 467 rfl rfl ?_
      refine g_call rfl (q2 J2 hJ2) (fun r J3 hJ3 => ?_) (hr := rcv2 rfl)
      obtain ⟨rfl, hJ3, f3⟩ := hJ3
      have hX3 : ∀ j, rng (J3 1 j) := fun j => by rw [f3 1 (by omega), f2 1 (by omega), f1 1 (by omega)]; exact hX j
      refine g_if_lt rfl (by omega) (fun g3 => ?_) (fun g3 => ?_)
      · exact absurd g3 (by omega)
      · refine g_l 474 rfl rfl ?_
        refine g_p 475 rfl rfl ?_
        refine g_ic_gt rfl (by omega) (by omega) (fun g4 => ?_) (fun g4 => ?_)
        · exact mid J3 hX3 hJ3
        · refine g_l 479 rfl rfl ?_
          refine g_l 480 rfl rfl ?_
          refine g_p 481 rfl rfl ?_
          refine g_p 482 rfl rfl ?_
          refine g_p 483 rfl rfl ?_
          refine g_p 484 rfl rfl ?_
          refine g_call rfl (q3 J3 hJ3 (by omega)) (fun r J4 hJ4 => ?_) (hr := rcv2 rfl)
          obtain ⟨rfl, hJ4, f4⟩ := hJ4
          refine g_l 488 rfl rfl ?_
          refine g_l 489 rfl rfl ?_
          refine g_p 490 rfl rfl ?_
          refine g_p 491 rfl rfl ?_
          refine g_p 492 rfl rfl ?_
          refine g_p 493 rfl rfl ?_
          refine g_call rfl (q1 J4 hJ4) (fun r J5 hJ5 => ?_) (hr := rcv2 rfl)
          obtain ⟨rfl, hJ5, f5⟩ := hJ5
          refine g_ic_gt rfl (by omega) (by omega) (fun g5 => ?_) (fun g5 => ?_)
          · exact absurd g5 (by omega)
          · exact mid J5 (fun j => by rw [f5 1 (by omega), f4 1 (by omega)]; exact hX3 j) hJ5
end W3
