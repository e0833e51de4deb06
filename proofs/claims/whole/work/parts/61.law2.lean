/-! THE LAW: the other calls, its loop -/
section L2
variable {L d i : Nat} {X : Nat → Int} {J : zI} {v : Nat → Int} {hs : Nat → Nat → Int} {hn : Nat} {ct tx : Nat → Int} {tl : Nat} {Q : Option zV → zI → Prop}
set_option maxRecDepth 16384 in
theorem l_joins (hX : ∀ j, rng (X j)) (hi : i + 6 ≤ L) (hL : L ≤ 3072) (h : LI X J v hs hn ct tx tl) (next : ∀ (M : zI) (v : Nat → Int) (hs : Nat → Nat → Int) (hn : Nat) (ct tx : Nat → Int) (tl : Nat), LI X M v hs hn ct tx tl → Go L (d + 20) k_L_law 864 [some (vR 1), some (vR 2), some (vR 137), some (vI i)] [] M Q) : Go L (d + 20) k_L_law 534 [some (vR 1), some (vR 2), some (vR 137), some (vI i)] [] J Q := by
  obtain ⟨hC, hM, h1⟩ := h
  refine g_l 535 rfl rfl ?_
  refine g_l 536 rfl rfl ?_
  refine g_l 537 rfl rfl ?_
  refine g_p 538 rfl rfl ?_
  refine g_p 539 rfl rfl ?_
  refine g_ia (i + 1) rfl rfl (by omega) (by omega) ?_
  rw [h1]
  refine g_l 541 rfl rfl ?_
  refine g_l 542 rfl rfl ?_
  refine g_p 543 rfl rfl ?_
  refine g_p 544 rfl rfl ?_
  refine g_ia (i + 2) rfl rfl (by omega) (by omega) ?_
  rw [h1]
  refine g_l 546 rfl rfl ?_
  refine g_l 547 rfl rfl ?_
  refine g_p 548 rfl rfl ?_
  refine g_p 549 rfl rfl ?_
  refine g_ia (i + 3) rfl rfl (by omega) (by omega) ?_
  rw [h1]
  refine g_l 551 rfl rfl ?_
  refine g_l 552 rfl rfl ?_
  refine g_p 553 rfl rfl ?_
  refine g_p 554 rfl rfl ?_
  refine g_ia (i + 4) rfl rfl (by omega) (by omega) ?_
  rw [h1]
  refine g_l 556 rfl rfl ?_
  refine g_l 557 rfl rfl ?_
  refine g_p 558 rfl rfl ?_
  refine g_p 559 rfl rfl ?_
  refine g_ia (i + 5) rfl rfl (by omega) (by omega) ?_
  rw [h1]
  refine g_call rfl (c_joins hC (hX _) (hX _) (hX _) (hX _) (hX _)) (fun r J1 hJ1 => ?_) (hr := rcv2 rfl)
  obtain ⟨rfl, a1, a2⟩ := hJ1
  have h1J : J1 1 = X := (a2 1 (by omega)).trans h1
  refine g_l 564 rfl rfl ?_
  refine g_l 565 rfl rfl ?_
  refine g_l 566 rfl rfl ?_
  refine g_p 567 rfl rfl ?_
  refine g_p 568 rfl rfl ?_
  refine g_ia (i + 1) rfl rfl (by omega) (by omega) ?_
  rw [h1J]
  refine g_l 570 rfl rfl ?_
  refine g_l 571 rfl rfl ?_
  refine g_p 572 rfl rfl ?_
  refine g_p 573 rfl rfl ?_
  refine g_ia (i + 2) rfl rfl (by omega) (by omega) ?_
  rw [h1J]
  refine g_l 575 rfl rfl ?_
  refine g_l 576 rfl rfl ?_
  refine g_p 577 rfl rfl ?_
  refine g_p 578 rfl rfl ?_
  refine g_ia (i + 3) rfl rfl (by omega) (by omega) ?_
  rw [h1J]
  refine g_l 580 rfl rfl ?_
  refine g_l 581 rfl rfl ?_
  refine g_p 582 rfl rfl ?_
  refine g_p 583 rfl rfl ?_
  refine g_ia (i + 4) rfl rfl (by omega) (by omega) ?_
  rw [h1J]
  refine g_l 585 rfl rfl ?_
  refine g_l 586 rfl rfl ?_
  refine g_p 587 rfl rfl ?_
  refine g_p 588 rfl rfl ?_
  refine g_ia (i + 5) rfl rfl (by omega) (by omega) ?_
  rw [h1J]
  refine g_call rfl (m_joins (hM.c a2) (hX _) (hX _) (hX _) (hX _) (hX _)) (fun r J2 hJ2 => ?_) (hr := rcvM rfl)
  obtain ⟨rfl, b1, b2⟩ := hJ2
  refine g_same rfl ?_
  exact next J2 _ _ _ _ _ _ ⟨a1.m b2, b1, (b2 1 (by omega)).trans h1J⟩
set_option maxRecDepth 16384 in
theorem l_table (hX : ∀ j, rng (X j)) (hi : i + 6 ≤ L) (hL : L ≤ 3072) (h : LI X J v hs hn ct tx tl) (next : ∀ (M : zI) (v : Nat → Int) (hs : Nat → Nat → Int) (hn : Nat) (ct tx : Nat → Int) (tl : Nat), LI X M v hs hn ct tx tl → Go L (d + 20) k_L_law 864 [some (vR 1), some (vR 2), some (vR 137), some (vI i)] [] M Q) : Go L (d + 20) k_L_law 597 [some (vR 1), some (vR 2), some (vR 137), some (vI i)] [] J Q := by
  obtain ⟨hC, hM, h1⟩ := h
  refine g_l 598 rfl rfl ?_
  refine g_l 599 rfl rfl ?_
  refine g_l 600 rfl rfl ?_
  refine g_p 601 rfl rfl ?_
  refine g_p 602 rfl rfl ?_
  refine g_ia (i + 1) rfl rfl (by omega) (by omega) ?_
  rw [h1]
  refine g_l 604 rfl rfl ?_
  refine g_l 605 rfl rfl ?_
  refine g_p 606 rfl rfl ?_
  refine g_p 607 rfl rfl ?_
  refine g_ia (i + 2) rfl rfl (by omega) (by omega) ?_
  rw [h1]
  refine g_call rfl (c_table hC (hX _) (hX _)) (fun r J1 hJ1 => ?_) (hr := rcv2 rfl)
  obtain ⟨rfl, a1, a2⟩ := hJ1
  have h1J : J1 1 = X := (a2 1 (by omega)).trans h1
  refine g_l 612 rfl rfl ?_
  refine g_l 613 rfl rfl ?_
  refine g_l 614 rfl rfl ?_
  refine g_p 615 rfl rfl ?_
  refine g_p 616 rfl rfl ?_
  refine g_ia (i + 1) rfl rfl (by omega) (by omega) ?_
  rw [h1J]
  refine g_l 618 rfl rfl ?_
  refine g_l 619 rfl rfl ?_
  refine g_p 620 rfl rfl ?_
  refine g_p 621 rfl rfl ?_
  refine g_ia (i + 2) rfl rfl (by omega) (by omega) ?_
  rw [h1J]
  refine g_call rfl (m_table (hM.c a2) (hX _) (hX _)) (fun r J2 hJ2 => ?_) (hr := rcvM rfl)
  obtain ⟨rfl, b1, b2⟩ := hJ2
  refine g_same rfl ?_
  exact next J2 _ _ _ _ _ _ ⟨a1.m b2, b1, (b2 1 (by omega)).trans h1J⟩
set_option maxRecDepth 16384 in
theorem l_puts (hX : ∀ j, rng (X j)) (hi : i + 6 ≤ L) (hL : L ≤ 3072) (h : LI X J v hs hn ct tx tl) (next : ∀ (M : zI) (v : Nat → Int) (hs : Nat → Nat → Int) (hn : Nat) (ct tx : Nat → Int) (tl : Nat), LI X M v hs hn ct tx tl → Go L (d + 20) k_L_law 864 [some (vR 1), some (vR 2), some (vR 137), some (vI i)] [] M Q) : Go L (d + 20) k_L_law 630 [some (vR 1), some (vR 2), some (vR 137), some (vI i)] [] J Q := by
  obtain ⟨hC, hM, h1⟩ := h
  refine g_l 631 rfl rfl ?_
  refine g_l 632 rfl rfl ?_
  refine g_l 633 rfl rfl ?_
  refine g_p 634 rfl rfl ?_
  refine g_p 635 rfl rfl ?_
  refine g_ia (i + 1) rfl rfl (by omega) (by omega) ?_
  rw [h1]
  refine g_l 637 rfl rfl ?_
  refine g_l 638 rfl rfl ?_
  refine g_p 639 rfl rfl ?_
  refine g_p 640 rfl rfl ?_
  refine g_ia (i + 2) rfl rfl (by omega) (by omega) ?_
  rw [h1]
  refine g_l 642 rfl rfl ?_
  refine g_l 643 rfl rfl ?_
  refine g_p 644 rfl rfl ?_
  refine g_p 645 rfl rfl ?_
  refine g_ia (i + 3) rfl rfl (by omega) (by omega) ?_
  rw [h1]
  refine g_call rfl (c_puts hC (hX _) (hX _) (hX _)) (fun r J1 hJ1 => ?_) (hr := rcv2 rfl)
  obtain ⟨rfl, a1, a2⟩ := hJ1
  have h1J : J1 1 = X := (a2 1 (by omega)).trans h1
  refine g_l 650 rfl rfl ?_
  refine g_l 651 rfl rfl ?_
  refine g_l 652 rfl rfl ?_
  refine g_p 653 rfl rfl ?_
  refine g_p 654 rfl rfl ?_
  refine g_ia (i + 1) rfl rfl (by omega) (by omega) ?_
  rw [h1J]
  refine g_l 656 rfl rfl ?_
  refine g_l 657 rfl rfl ?_
  refine g_p 658 rfl rfl ?_
  refine g_p 659 rfl rfl ?_
  refine g_ia (i + 2) rfl rfl (by omega) (by omega) ?_
  rw [h1J]
  refine g_l 661 rfl rfl ?_
  refine g_l 662 rfl rfl ?_
  refine g_p 663 rfl rfl ?_
  refine g_p 664 rfl rfl ?_
  refine g_ia (i + 3) rfl rfl (by omega) (by omega) ?_
  rw [h1J]
  refine g_call rfl (m_puts (hM.c a2) (hX _) (hX _) (hX _)) (fun r J2 hJ2 => ?_) (hr := rcvM rfl)
  obtain ⟨rfl, b1, b2⟩ := hJ2
  refine g_same rfl ?_
  exact next J2 _ _ _ _ _ _ ⟨a1.m b2, b1, (b2 1 (by omega)).trans h1J⟩
set_option maxRecDepth 16384 in
theorem l_takes (hX : ∀ j, rng (X j)) (hi : i + 6 ≤ L) (hL : L ≤ 3072) (h : LI X J v hs hn ct tx tl) (next : ∀ (M : zI) (v : Nat → Int) (hs : Nat → Nat → Int) (hn : Nat) (ct tx : Nat → Int) (tl : Nat), LI X M v hs hn ct tx tl → Go L (d + 20) k_L_law 864 [some (vR 1), some (vR 2), some (vR 137), some (vI i)] [] M Q) : Go L (d + 20) k_L_law 673 [some (vR 1), some (vR 2), some (vR 137), some (vI i)] [] J Q := by
  obtain ⟨hC, hM, h1⟩ := h
  refine g_l 674 rfl rfl ?_
  refine g_l 675 rfl rfl ?_
  refine g_l 676 rfl rfl ?_
  refine g_p 677 rfl rfl ?_
  refine g_p 678 rfl rfl ?_
  refine g_ia (i + 1) rfl rfl (by omega) (by omega) ?_
  rw [h1]
  refine g_call rfl (c_takes hC (hX _)) (fun r J1 hJ1 => ?_) (hr := rcv2 rfl)
  obtain ⟨rfl, a1, a2⟩ := hJ1
  have h1J : J1 1 = X := (a2 1 (by omega)).trans h1
  refine g_l 683 rfl rfl ?_
  refine g_l 684 rfl rfl ?_
  refine g_l 685 rfl rfl ?_
  refine g_p 686 rfl rfl ?_
  refine g_p 687 rfl rfl ?_
  refine g_ia (i + 1) rfl rfl (by omega) (by omega) ?_
  rw [h1J]
  refine g_call rfl (m_takes (hM.c a2) (hX _)) (fun r J2 hJ2 => ?_) (hr := rcvM rfl)
  obtain ⟨rfl, b1, b2⟩ := hJ2
  refine g_same rfl ?_
  exact next J2 _ _ _ _ _ _ ⟨a1.m b2, b1, (b2 1 (by omega)).trans h1J⟩
set_option maxRecDepth 16384 in
theorem l_at (hX : ∀ j, rng (X j)) (hi : i + 6 ≤ L) (hL : L ≤ 3072) (h : LI X J v hs hn ct tx tl) (next : ∀ (M : zI) (v : Nat → Int) (hs : Nat → Nat → Int) (hn : Nat) (ct tx : Nat → Int) (tl : Nat), LI X M v hs hn ct tx tl → Go L (d + 20) k_L_law 864 [some (vR 1), some (vR 2), some (vR 137), some (vI i)] [] M Q) : Go L (d + 20) k_L_law 696 [some (vR 1), some (vR 2), some (vR 137), some (vI i)] [] J Q := by
  obtain ⟨hC, hM, h1⟩ := h
  refine g_l 697 rfl rfl ?_
  refine g_l 698 rfl rfl ?_
  refine g_l 699 rfl rfl ?_
  refine g_p 700 rfl rfl ?_
  refine g_p 701 rfl rfl ?_
  refine g_ia (i + 1) rfl rfl (by omega) (by omega) ?_
  rw [h1]
  refine g_call rfl (c_at hC (hX _)) (fun r J1 hJ1 => ?_) (hr := rcv2 rfl)
  obtain ⟨rfl, a1, a2⟩ := hJ1
  have h1J : J1 1 = X := (a2 1 (by omega)).trans h1
  refine g_l 706 rfl rfl ?_
  refine g_l 707 rfl rfl ?_
  refine g_l 708 rfl rfl ?_
  refine g_p 709 rfl rfl ?_
  refine g_p 710 rfl rfl ?_
  refine g_ia (i + 1) rfl rfl (by omega) (by omega) ?_
  rw [h1J]
  refine g_call rfl (m_at (hM.c a2) (hX _)) (fun r J2 hJ2 => ?_) (hr := rcvM rfl)
  obtain ⟨rfl, b1, b2⟩ := hJ2
  refine g_same rfl ?_
  exact next J2 _ _ _ _ _ _ ⟨a1.m b2, b1, (b2 1 (by omega)).trans h1J⟩
set_option maxRecDepth 16384 in
theorem l_cost (hX : ∀ j, rng (X j)) (hi : i + 6 ≤ L) (hL : L ≤ 3072) (h : LI X J v hs hn ct tx tl) (next : ∀ (M : zI) (v : Nat → Int) (hs : Nat → Nat → Int) (hn : Nat) (ct tx : Nat → Int) (tl : Nat), LI X M v hs hn ct tx tl → Go L (d + 20) k_L_law 864 [some (vR 1), some (vR 2), some (vR 137), some (vI i)] [] M Q) : Go L (d + 20) k_L_law 719 [some (vR 1), some (vR 2), some (vR 137), some (vI i)] [] J Q := by
  obtain ⟨hC, hM, h1⟩ := h
  refine g_l 720 rfl rfl ?_
  refine g_call rfl (c_cost hC) (fun r J1 hJ1 => ?_) (hr := rcv2 rfl)
  obtain ⟨rfl, a1, a2⟩ := hJ1
  have h1J : J1 1 = X := (a2 1 (by omega)).trans h1
  refine g_l 724 rfl rfl ?_
  refine g_call rfl (m_cost (hM.c a2)) (fun r J2 hJ2 => ?_) (hr := rcvM rfl)
  obtain ⟨rfl, b1, b2⟩ := hJ2
  refine g_same rfl ?_
  exact next J2 _ _ _ _ _ _ ⟨a1.m b2, b1, (b2 1 (by omega)).trans h1J⟩
set_option maxRecDepth 16384 in
theorem l_next (hX : ∀ j, rng (X j)) (hi : i + 6 ≤ L) (hL : L ≤ 3072) (h : LI X J v hs hn ct tx tl) (next : ∀ (M : zI) (v : Nat → Int) (hs : Nat → Nat → Int) (hn : Nat) (ct tx : Nat → Int) (tl : Nat), LI X M v hs hn ct tx tl → Go L (d + 20) k_L_law 864 [some (vR 1), some (vR 2), some (vR 137), some (vI i)] [] M Q) : Go L (d + 20) k_L_law 732 [some (vR 1), some (vR 2), some (vR 137), some (vI i)] [] J Q := by
  obtain ⟨hC, hM, h1⟩ := h
  refine g_l 733 rfl rfl ?_
  refine g_l 734 rfl rfl ?_
  refine g_l 735 rfl rfl ?_
  refine g_p 736 rfl rfl ?_
  refine g_p 737 rfl rfl ?_
  refine g_ia (i + 1) rfl rfl (by omega) (by omega) ?_
  rw [h1]
  refine g_l 739 rfl rfl ?_
  refine g_l 740 rfl rfl ?_
  refine g_p 741 rfl rfl ?_
  refine g_p 742 rfl rfl ?_
  refine g_ia (i + 2) rfl rfl (by omega) (by omega) ?_
  rw [h1]
  refine g_call rfl (c_next hC (hX _) (hX _)) (fun r J1 hJ1 => ?_) (hr := rcv2 rfl)
  obtain ⟨rfl, a1, a2⟩ := hJ1
  have h1J : J1 1 = X := (a2 1 (by omega)).trans h1
  refine g_l 747 rfl rfl ?_
  refine g_l 748 rfl rfl ?_
  refine g_l 749 rfl rfl ?_
  refine g_p 750 rfl rfl ?_
  refine g_p 751 rfl rfl ?_
  refine g_ia (i + 1) rfl rfl (by omega) (by omega) ?_
  rw [h1J]
  refine g_l 753 rfl rfl ?_
  refine g_l 754 rfl rfl ?_
  refine g_p 755 rfl rfl ?_
  refine g_p 756 rfl rfl ?_
  refine g_ia (i + 2) rfl rfl (by omega) (by omega) ?_
  rw [h1J]
  refine g_call rfl (m_next (hM.c a2) (hX _) (hX _)) (fun r J2 hJ2 => ?_) (hr := rcvM rfl)
  obtain ⟨rfl, b1, b2⟩ := hJ2
  refine g_same rfl ?_
  exact next J2 _ _ _ _ _ _ ⟨a1.m b2, b1, (b2 1 (by omega)).trans h1J⟩
set_option maxRecDepth 16384 in
theorem l_type (hX : ∀ j, rng (X j)) (hi : i + 6 ≤ L) (hL : L ≤ 3072) (h : LI X J v hs hn ct tx tl) (next : ∀ (M : zI) (v : Nat → Int) (hs : Nat → Nat → Int) (hn : Nat) (ct tx : Nat → Int) (tl : Nat), LI X M v hs hn ct tx tl → Go L (d + 20) k_L_law 864 [some (vR 1), some (vR 2), some (vR 137), some (vI i)] [] M Q) : Go L (d + 20) k_L_law 765 [some (vR 1), some (vR 2), some (vR 137), some (vI i)] [] J Q := by
  obtain ⟨hC, hM, h1⟩ := h
  by_cases hv : why3 (qType tl (X (i + 1)))
  · refine g_l 766 rfl rfl ?_
    refine g_l 767 rfl rfl ?_
    refine g_l 768 rfl rfl ?_
    refine g_p 769 rfl rfl ?_
    refine g_p 770 rfl rfl ?_
    refine g_ia (i + 1) rfl rfl (by omega) (by omega) ?_
    rw [h1]
    refine g_call rfl (c_type_n hC (hX _) hv) (fun r J1 hJ1 => ?_) (hr := rcv2 rfl)
    obtain ⟨rfl, a1, a2⟩ := hJ1
    have h1J : J1 1 = X := (a2 1 (by omega)).trans h1
    refine g_l 775 rfl rfl ?_
    refine g_l 776 rfl rfl ?_
    refine g_l 777 rfl rfl ?_
    refine g_p 778 rfl rfl ?_
    refine g_p 779 rfl rfl ?_
    refine g_ia (i + 1) rfl rfl (by omega) (by omega) ?_
    rw [h1J]
    refine g_call rfl (m_type_n (hM.c a2) (hX _) hv) (fun r J2 hJ2 => ?_) (hr := rcvM rfl)
    obtain ⟨rfl, b1, b2⟩ := hJ2
    refine g_same rfl ?_
    exact next J2 _ _ _ _ _ _ ⟨a1.m b2, b1, (b2 1 (by omega)).trans h1J⟩
  · have hc : (0 ≤ X (i + 1) ∧ X (i + 1) < 128) ∧ tl < 150 := by
      unfold qType at hv
      by_cases hc : 0 ≤ X (i + 1) ∧ X (i + 1) < 128
      · rw [if_pos hc] at hv
        by_cases hl : 150 ≤ tl
        · rw [if_pos hl] at hv
          exact absurd (Or.inr (Or.inr rfl)) hv
        · exact ⟨hc, by omega⟩
      · rw [if_neg hc] at hv
        exact absurd (Or.inl rfl) hv
    refine g_l 766 rfl rfl ?_
    refine g_l 767 rfl rfl ?_
    refine g_l 768 rfl rfl ?_
    refine g_p 769 rfl rfl ?_
    refine g_p 770 rfl rfl ?_
    refine g_ia (i + 1) rfl rfl (by omega) (by omega) ?_
    rw [h1]
    refine g_call rfl (c_type_y hC hc.1 hc.2) (fun r J1 hJ1 => ?_) (hr := rcv2 rfl)
    obtain ⟨rfl, a1, a2⟩ := hJ1
    have h1J : J1 1 = X := (a2 1 (by omega)).trans h1
    refine g_l 775 rfl rfl ?_
    refine g_l 776 rfl rfl ?_
    refine g_l 777 rfl rfl ?_
    refine g_p 778 rfl rfl ?_
    refine g_p 779 rfl rfl ?_
    refine g_ia (i + 1) rfl rfl (by omega) (by omega) ?_
    rw [h1J]
    refine g_call rfl (m_type_y (hM.c a2) hc.1 hc.2) (fun r J2 hJ2 => ?_) (hr := rcvM rfl)
    obtain ⟨rfl, b1, b2⟩ := hJ2
    refine g_same rfl ?_
    exact next J2 _ _ _ _ _ _ ⟨a1.m b2, b1, (b2 1 (by omega)).trans h1J⟩
set_option maxRecDepth 16384 in
theorem l_clear (hX : ∀ j, rng (X j)) (hi : i + 6 ≤ L) (hL : L ≤ 3072) (h : LI X J v hs hn ct tx tl) (next : ∀ (M : zI) (v : Nat → Int) (hs : Nat → Nat → Int) (hn : Nat) (ct tx : Nat → Int) (tl : Nat), LI X M v hs hn ct tx tl → Go L (d + 20) k_L_law 864 [some (vR 1), some (vR 2), some (vR 137), some (vI i)] [] M Q) : Go L (d + 20) k_L_law 788 [some (vR 1), some (vR 2), some (vR 137), some (vI i)] [] J Q := by
  obtain ⟨hC, hM, h1⟩ := h
  refine g_l 789 rfl rfl ?_
  refine g_call rfl (c_clear hC) (fun r J1 hJ1 => ?_) (hr := rcv2 rfl)
  obtain ⟨rfl, a1, a2⟩ := hJ1
  have h1J : J1 1 = X := (a2 1 (by omega)).trans h1
  refine g_l 793 rfl rfl ?_
  refine g_call rfl (m_clear (hM.c a2)) (fun r J2 hJ2 => ?_) (hr := rcvM rfl)
  obtain ⟨rfl, b1, b2⟩ := hJ2
  refine g_same rfl ?_
  exact next J2 _ _ _ _ _ _ ⟨a1.m b2, b1, (b2 1 (by omega)).trans h1J⟩
set_option maxRecDepth 16384 in
theorem l_reads (hX : ∀ j, rng (X j)) (hi : i + 6 ≤ L) (hL : L ≤ 3072) (h : LI X J v hs hn ct tx tl) (next : ∀ (M : zI) (v : Nat → Int) (hs : Nat → Nat → Int) (hn : Nat) (ct tx : Nat → Int) (tl : Nat), LI X M v hs hn ct tx tl → Go L (d + 20) k_L_law 864 [some (vR 1), some (vR 2), some (vR 137), some (vI i)] [] M Q) : Go L (d + 20) k_L_law 801 [some (vR 1), some (vR 2), some (vR 137), some (vI i)] [] J Q := by
  obtain ⟨hC, hM, h1⟩ := h
  refine g_l 802 rfl rfl ?_
  refine g_call rfl (c_reads hC) (fun r J1 hJ1 => ?_) (hr := rcv2 rfl)
  obtain ⟨rfl, a1, a2⟩ := hJ1
  have h1J : J1 1 = X := (a2 1 (by omega)).trans h1
  refine g_l 806 rfl rfl ?_
  refine g_call rfl (m_reads (hM.c a2)) (fun r J2 hJ2 => ?_) (hr := rcvM rfl)
  obtain ⟨rfl, b1, b2⟩ := hJ2
  refine g_same rfl ?_
  exact next J2 _ _ _ _ _ _ ⟨a1.m b2, b1, (b2 1 (by omega)).trans h1J⟩
set_option maxRecDepth 16384 in
theorem l_back (hX : ∀ j, rng (X j)) (hi : i + 6 ≤ L) (hL : L ≤ 3072) (h : LI X J v hs hn ct tx tl) (next : ∀ (M : zI) (v : Nat → Int) (hs : Nat → Nat → Int) (hn : Nat) (ct tx : Nat → Int) (tl : Nat), LI X M v hs hn ct tx tl → Go L (d + 20) k_L_law 864 [some (vR 1), some (vR 2), some (vR 137), some (vI i)] [] M Q) : Go L (d + 20) k_L_law 814 [some (vR 1), some (vR 2), some (vR 137), some (vI i)] [] J Q := by
  obtain ⟨hC, hM, h1⟩ := h
  cases hn with
  | zero =>
    refine g_l 815 rfl rfl ?_
    refine g_call rfl (c_back_n hC) (fun r J1 hJ1 => ?_) (hr := rcv2 rfl)
    obtain ⟨rfl, a1, a2⟩ := hJ1
    have h1J : J1 1 = X := (a2 1 (by omega)).trans h1
    refine g_l 819 rfl rfl ?_
    refine g_call rfl (m_back_n (hM.c a2)) (fun r J2 hJ2 => ?_) (hr := rcvM rfl)
    obtain ⟨rfl, b1, b2⟩ := hJ2
    refine g_same rfl ?_
    exact next J2 _ _ _ _ _ _ ⟨a1.m b2, b1, (b2 1 (by omega)).trans h1J⟩
  | succ n =>
    refine g_l 815 rfl rfl ?_
    refine g_call rfl (c_back_y hC) (fun r J1 hJ1 => ?_) (hr := rcv2 rfl)
    obtain ⟨rfl, a1, a2⟩ := hJ1
    have h1J : J1 1 = X := (a2 1 (by omega)).trans h1
    refine g_l 819 rfl rfl ?_
    refine g_call rfl (m_back_y (hM.c a2)) (fun r J2 hJ2 => ?_) (hr := rcvM rfl)
    obtain ⟨rfl, b1, b2⟩ := hJ2
    refine g_same rfl ?_
    exact next J2 _ _ _ _ _ _ ⟨a1.m b2, b1, (b2 1 (by omega)).trans h1J⟩
set_option maxRecDepth 16384 in
theorem l_told (hX : ∀ j, rng (X j)) (hi : i + 6 ≤ L) (hL : L ≤ 3072) (h : LI X J v hs hn ct tx tl) (next : ∀ (M : zI) (v : Nat → Int) (hs : Nat → Nat → Int) (hn : Nat) (ct tx : Nat → Int) (tl : Nat), LI X M v hs hn ct tx tl → Go L (d + 20) k_L_law 864 [some (vR 1), some (vR 2), some (vR 137), some (vI i)] [] M Q) : Go L (d + 20) k_L_law 827 [some (vR 1), some (vR 2), some (vR 137), some (vI i)] [] J Q := by
  obtain ⟨hC, hM, h1⟩ := h
  refine g_l 828 rfl rfl ?_
  refine g_l 829 rfl rfl ?_
  refine g_l 830 rfl rfl ?_
  refine g_p 831 rfl rfl ?_
  refine g_p 832 rfl rfl ?_
  refine g_ia (i + 1) rfl rfl (by omega) (by omega) ?_
  rw [h1]
  refine g_call rfl (c_told hC (hX _)) (fun r J1 hJ1 => ?_) (hr := rcv2 rfl)
  obtain ⟨rfl, a1, a2⟩ := hJ1
  have h1J : J1 1 = X := (a2 1 (by omega)).trans h1
  refine g_l 837 rfl rfl ?_
  refine g_l 838 rfl rfl ?_
  refine g_l 839 rfl rfl ?_
  refine g_p 840 rfl rfl ?_
  refine g_p 841 rfl rfl ?_
  refine g_ia (i + 1) rfl rfl (by omega) (by omega) ?_
  rw [h1J]
  refine g_call rfl (m_told (hM.c a2) (hX _)) (fun r J2 hJ2 => ?_) (hr := rcvM rfl)
  obtain ⟨rfl, b1, b2⟩ := hJ2
  refine g_same rfl ?_
  exact next J2 _ _ _ _ _ _ ⟨a1.m b2, b1, (b2 1 (by omega)).trans h1J⟩
set_option maxRecDepth 16384 in
theorem l_digest (hX : ∀ j, rng (X j)) (hi : i + 6 ≤ L) (hL : L ≤ 3072) (h : LI X J v hs hn ct tx tl) (next : ∀ (M : zI) (v : Nat → Int) (hs : Nat → Nat → Int) (hn : Nat) (ct tx : Nat → Int) (tl : Nat), LI X M v hs hn ct tx tl → Go L (d + 20) k_L_law 864 [some (vR 1), some (vR 2), some (vR 137), some (vI i)] [] M Q) : Go L (d + 20) k_L_law 850 [some (vR 1), some (vR 2), some (vR 137), some (vI i)] [] J Q := by
  obtain ⟨hC, hM, h1⟩ := h
  refine g_l 851 rfl rfl ?_
  refine g_call rfl (c_digest hC) (fun r J1 hJ1 => ?_) (hr := rcv2 rfl)
  obtain ⟨rfl, a1, a2⟩ := hJ1
  have h1J : J1 1 = X := (a2 1 (by omega)).trans h1
  refine g_l 855 rfl rfl ?_
  refine g_call rfl (m_digest (hM.c a2)) (fun r J2 hJ2 => ?_) (hr := rcvM rfl)
  obtain ⟨rfl, b1, b2⟩ := hJ2
  refine g_lsame 859 rfl ?_
  refine g_if_eq rfl (by decide) (fun g => ?_) (fun g => absurd rfl g)
  exact next J2 _ _ _ _ _ _ ⟨a1.m b2, b1, (b2 1 (by omega)).trans h1J⟩
theorem zand_31 (x : Int) : 0 ≤ zand x 31 ∧ zand x 31 ≤ 31 := by
  unfold zand
  obtain ⟨j, hj, e⟩ := pk_andE (Int32.ofInt x) (m := Int32.ofInt 31) 5 (by decide +kernel)
  rw [e, nI_toInt (by omega)]
  omega
set_option maxRecDepth 16384 in
theorem l_loop (hX : ∀ j, rng (X j)) (hL : L ≤ 3072) (hQ : ∀ J, Q (some (vI 1)) J) : ∀ (m i : Nat) (J : zI) (v : Nat → Int) (hs : Nat → Nat → Int) (hn : Nat) (ct tx : Nat → Int) (tl : Nat), L ≤ i + 6 * m → i ≤ L + 6 → LI X J v hs hn ct tx tl → Go L (d + 20) k_L_law 18 [some (vR 1), some (vR 2), some (vR 137), some (vI i)] [] J Q := by
  have out : ∀ (i : Nat) (J : zI), Go L (d + 20) k_L_law 870 [some (vR 1), some (vR 2), some (vR 137), some (vI i)] [] J Q := fun i J => by
    refine g_p 871 rfl rfl ?_
    exact g_retb rfl rfl (Or.inr rfl) (hQ J)
  intro m
  induction m with
  | zero =>
    intro i J v hs hn ct tx tl hm hi h
    refine g_l 19 rfl rfl ?_
    refine g_l 20 rfl rfl ?_
    refine g_alen rfl (n := L) rfl ?_
    refine g_p 23 rfl rfl ?_
    refine g_p 24 rfl rfl ?_
    refine g_ic_gt rfl (by omega) (by omega) (fun g => ?_) (fun g => ?_)
    · exact out i J
    · exact absurd g (by omega)
  | succ m ih =>
    intro i J v hs hn ct tx tl hm hi h
    have next : ∀ (M : zI) (v : Nat → Int) (hs : Nat → Nat → Int) (hn : Nat) (ct tx : Nat → Int) (tl : Nat), i + 6 ≤ L → LI X M v hs hn ct tx tl → Go L (d + 20) k_L_law 864 [some (vR 1), some (vR 2), some (vR 137), some (vI i)] [] M Q := fun M v hs hn ct tx tl h6 hM => by
      refine g_l 867 rfl rfl ?_
      refine g_goto rfl ?_
      exact ih (i + 6) M v hs hn ct tx tl (by omega) (by omega) hM
    refine g_l 19 rfl rfl ?_
    refine g_l 20 rfl rfl ?_
    refine g_alen rfl (n := L) rfl ?_
    refine g_p 23 rfl rfl ?_
    refine g_p 24 rfl rfl ?_
    refine g_ic_gt rfl (by omega) (by omega) (fun g => ?_) (fun g => ?_)
    · exact out i J
    · have h6 : i + 6 ≤ L := by omega
      have nx := fun M v hs hn ct tx tl => next M v hs hn ct tx tl h6
      refine g_l 28 rfl rfl ?_
      refine g_l 29 rfl rfl ?_
      refine g_ia i rfl rfl rfl (by omega) ?_
      refine g_p 32 rfl rfl ?_
      refine g_p 33 rfl rfl ?_
      have hc := zand_31 (J 1 i)
      generalize zand (J 1 i) 31 = c at hc ⊢
      by_cases ec0 : c = 0
      · subst ec0
        refine g_ts 148 rfl (by decide) (by decide) ?_
        exact l_piece hX h6 hL h nx
      by_cases ec1 : c = 1
      · subst ec1
        refine g_ts 171 rfl (by decide) (by decide) ?_
        exact l_turns hX h6 hL h nx
      by_cases ec2 : c = 2
      · subst ec2
        refine g_ts 204 rfl (by decide) (by decide) ?_
        exact l_drops hX h6 hL h nx
      by_cases ec3 : c = 3
      · subst ec3
        refine g_ts 227 rfl (by decide) (by decide) ?_
        exact l_makes hX h6 hL h nx
      by_cases ec4 : c = 4
      · subst ec4
        refine g_ts 280 rfl (by decide) (by decide) ?_
        exact l_cell hX h6 hL h nx
      by_cases ec5 : c = 5
      · subst ec5
        refine g_ts 323 rfl (by decide) (by decide) ?_
        exact l_of hX h6 hL h nx
      by_cases ec6 : c = 6
      · subst ec6
        refine g_ts 356 rfl (by decide) (by decide) ?_
        exact l_edge hX h6 hL h nx
      by_cases ec7 : c = 7
      · subst ec7
        refine g_ts 389 rfl (by decide) (by decide) ?_
        exact l_unlike hX h6 hL h nx
      by_cases ec8 : c = 8
      · subst ec8
        refine g_ts 442 rfl (by decide) (by decide) ?_
        exact l_mate hX h6 hL h nx
      by_cases ec9 : c = 9
      · subst ec9
        refine g_ts 475 rfl (by decide) (by decide) ?_
        exact l_pairs hX h6 hL h nx
      by_cases ec10 : c = 10
      · subst ec10
        refine g_ts 498 rfl (by decide) (by decide) ?_
        exact l_groups hX h6 hL h nx
      by_cases ec11 : c = 11
      · subst ec11
        refine g_ts 511 rfl (by decide) (by decide) ?_
        exact l_edges hX h6 hL h nx
      by_cases ec12 : c = 12
      · subst ec12
        refine g_ts 534 rfl (by decide) (by decide) ?_
        exact l_joins hX h6 hL h nx
      by_cases ec13 : c = 13
      · subst ec13
        refine g_ts 597 rfl (by decide) (by decide) ?_
        exact l_table hX h6 hL h nx
      by_cases ec14 : c = 14
      · subst ec14
        refine g_ts 630 rfl (by decide) (by decide) ?_
        exact l_puts hX h6 hL h nx
      by_cases ec15 : c = 15
      · subst ec15
        refine g_ts 673 rfl (by decide) (by decide) ?_
        exact l_takes hX h6 hL h nx
      by_cases ec16 : c = 16
      · subst ec16
        refine g_ts 696 rfl (by decide) (by decide) ?_
        exact l_at hX h6 hL h nx
      by_cases ec17 : c = 17
      · subst ec17
        refine g_ts 719 rfl (by decide) (by decide) ?_
        exact l_cost hX h6 hL h nx
      by_cases ec18 : c = 18
      · subst ec18
        refine g_ts 732 rfl (by decide) (by decide) ?_
        exact l_next hX h6 hL h nx
      by_cases ec19 : c = 19
      · subst ec19
        refine g_ts 765 rfl (by decide) (by decide) ?_
        exact l_type hX h6 hL h nx
      by_cases ec20 : c = 20
      · subst ec20
        refine g_ts 788 rfl (by decide) (by decide) ?_
        exact l_clear hX h6 hL h nx
      by_cases ec21 : c = 21
      · subst ec21
        refine g_ts 801 rfl (by decide) (by decide) ?_
        exact l_reads hX h6 hL h nx
      by_cases ec22 : c = 22
      · subst ec22
        refine g_ts 814 rfl (by decide) (by decide) ?_
        exact l_back hX h6 hL h nx
      by_cases ec23 : c = 23
      · subst ec23
        refine g_ts 827 rfl (by decide) (by decide) ?_
        exact l_told hX h6 hL h nx
      by_cases ec24 : c = 24
      · subst ec24
        refine g_ts 850 rfl (by decide) (by decide) ?_
        exact l_digest hX h6 hL h nx
      refine g_ts 864 rfl (by omega) ?_ ?_
      · rw [if_pos (by omega)]
        rfl
      · exact nx _ _ _ _ _ _ _ h
end L2
