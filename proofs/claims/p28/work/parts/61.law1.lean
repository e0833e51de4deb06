/-! THE LAW: pieces and turns, over growing memory -/
theorem zand_rr (x y : Int) : rng (zand x y) := by
  unfold zand
  have h1 := Int32.le_toInt (Int32.ofInt x &&& Int32.ofInt y)
  have h2 := Int32.toInt_lt (Int32.ofInt x &&& Int32.ofInt y)
  omega
section W1
set_option maxRecDepth 16384 in
theorem w_turns {N L0 : Nat} {v : Nat → Int} {o6 o7 : Option zV} (hL0 : L0 ≤ 260) (h2 : 2 ≤ N) (hN : v 0 = (N : Int)) (hc : ∀ p, p < 8 → v (11 + p) = -1) : ∀ (m k : Nat) (J : zI) (nn L : Nat) (o5 : Option zV), k + m = 5 → L = L0 + 512 * k → (∀ j, rng (J 1 j)) → Lst J v nn → 2 ≤ nn → GD 20 k_L_law 144 [some (vR 1), some (vR 2), some (vI (N : Int)), some (vI 1), some (vI (k : Int)), o5, o6, o7] [] (mS L J) (fun r m => r = some (vI 1) ∧ ∃ (L' : Nat) (J : zI), L' ≤ 3072 ∧ m = mS L' J) := by
  intro m
  induction m with
  | zero =>
    intro k J nn L o5 hk hL hX hJ hn
    refine e_l 146 rfl rfl ?_
    refine e_p 147 rfl rfl ?_
    refine e_ic_ge rfl (by omega) (by omega) (fun g => ?_) (fun g => ?_)
    · exact GD.go (by omega) (w_mid (d := 0) hX hJ hN h2 hn hc) (fun r J1 h => ⟨h, L, J1, by omega, rfl⟩)
    · exact absurd (show (5 : Int) ≤ (k : Int) by omega) g
  | succ m ih =>
    intro k J nn L o5 hk hL hX hJ hn
    have ho := hJ.ok
    have hN8 := ho.1
    have hn6 := hJ.n6
    refine e_l 146 rfl rfl ?_
    refine e_p 147 rfl rfl ?_
    refine e_ic_ge rfl (by omega) (by omega) (fun g => ?_) (fun g => ?_)
    · exact absurd g (by omega)
    · refine e_l 151 rfl rfl ?_
      refine e_if_eq rfl (by omega) (fun g2 => ?_) (fun g2 => ?_)
      · exact absurd g2 (by omega)
      · refine e_l 155 rfl rfl ?_
        refine e_p 157 rfl rfl ?_
        refine e_l 159 rfl rfl ?_
        refine e_p 160 rfl rfl ?_
        refine e_callG (by omega) rfl (l_cell (9 + k) hX (by omega) (by omega)) (fun r J0 hJ0 => ?_)
        obtain ⟨⟨z, rfl, hz⟩, rfl⟩ := hJ0
        refine e_l 165 rfl rfl ?_
        refine GD.loc (rfl : _ = [_, _, _, _, _, _, _, _]) ?_
        refine e_l 166 rfl rfl ?_
        refine e_l 168 rfl rfl ?_
        refine e_l 169 rfl rfl ?_
        refine e_callG (by omega) rfl (l_up (by omega)) (fun r J0 hJ0 => ?_)
        obtain ⟨rfl, rfl⟩ := hJ0
        obtain ⟨p, hp, hp2⟩ := upz_nat (x := z) (m := (N : Int)) (by omega)
        rw [hp]
        refine e_l 174 rfl rfl ?_
        refine e_p 175 rfl rfl ?_
        refine e_p 176 rfl rfl ?_
        refine e_p 177 rfl rfl ?_
        refine e_callG (by omega) rfl (l_up (by omega)) (fun r J0 hJ0 => ?_)
        obtain ⟨rfl, rfl⟩ := hJ0
        obtain ⟨t, ht, ht2⟩ := upz_nat (x := zshr z 4) (m := 4) (by omega)
        rw [ht]
        obtain ⟨hs, ct, tx, tl, hC⟩ := hJ
        refine e_call rfl (l_turned (d := 12) (by omega) hC (by omega) (by omega)) rfl (fun r m hm => ?_)
        obtain ⟨rfl, J2, hs', rfl, hC2, hX2⟩ := hm
        have hX3 : ∀ j, rng (J2 1 j) := fun j => by rw [hX2]; exact hX j
        have hJ2 : Lst J2 v (if nn ≤ 4 then nn else 4) := ⟨_, _, _, _, hC2⟩
        refine e_if_eq rfl (by omega) (fun g3 => ?_) (fun g3 => ?_)
        · exact absurd g3 (by omega)
        · refine e_l 187 rfl rfl ?_
          refine e_l 189 rfl rfl ?_
          refine e_p 191 rfl rfl ?_
          refine e_p 192 rfl rfl ?_
          refine e_l 193 rfl rfl ?_
          refine e_callG (by omega) rfl (l_up (by omega)) (fun r J0 hJ0 => ?_)
          obtain ⟨rfl, rfl⟩ := hJ0
          obtain ⟨p', hp', hp3⟩ := upz_nat (x := zshr z 6) (m := (N : Int)) (by omega)
          rw [hp']
          refine e_l 198 rfl rfl ?_
          refine e_p 200 rfl rfl ?_
          refine e_p 201 rfl rfl ?_
          refine e_l 202 rfl rfl ?_
          refine e_callG (by omega) rfl (l_up (by omega)) (fun r J0 hJ0 => ?_)
          obtain ⟨rfl, rfl⟩ := hJ0
          obtain ⟨q', hq', hq3⟩ := upz_nat (x := zshr z 9) (m := (N : Int)) (by omega)
          rw [hq']
          refine e_callG (by omega) rfl (l_unlike (d := 13) hJ2 (by omega) (by omega)) (fun r J3 hJ3 => ?_)
          obtain ⟨rfl, hJ3, f3⟩ := hJ3
          refine e_if_eq rfl (by omega) (fun g4 => ?_) (fun g4 => ?_)
          · exact absurd g4 (by omega)
          · refine e_p 212 rfl rfl ?_
            refine e_goto rfl ?_
            refine e_l 217 rfl rfl ?_
            refine GD.loc (rfl : _ = [_, _, _, _, _, _, _, _]) ?_
            refine e_l 220 rfl rfl ?_
            refine GD.loc (rfl : _ = [_, _, _, _, _, _, _, _]) ?_
            refine e_goto rfl ?_
            exact ih (k + 1) J3 _ (L + 512) _ (by omega) (by omega) (fun j => by rw [f3 1 (by omega)]; exact hX3 j) hJ3 (by split <;> omega)
set_option maxRecDepth 16384 in
theorem w_pieces {N L : Nat} {o6 o7 : Option zV} (hL : L ≤ 260) (h2 : 2 ≤ N ∧ N ≤ 8) : ∀ (m k : Nat) (J : zI) (v : Nat → Int) (nn : Nat) (o5 : Option zV), k + m = N → (∀ j, rng (J 1 j)) → Lst J v nn → v 0 = (k : Int) → (∀ p, p < 8 → v (11 + p) = -1) → (k ≤ nn ∨ nn = 6) → GD 20 k_L_law 62 [some (vR 1), some (vR 2), some (vI (N : Int)), some (vI 1), some (vI (k : Int)), o5, o6, o7] [] (mS L J) (fun r m => r = some (vI 1) ∧ ∃ (L' : Nat) (J : zI), L' ≤ 3072 ∧ m = mS L' J) := by
  intro m
  induction m with
  | zero =>
    intro k J v nn o5 hk hX hJ h0 hc hn
    refine e_l 64 rfl rfl ?_
    refine e_l 65 rfl rfl ?_
    refine e_ic_ge rfl (by omega) (by omega) (fun g => ?_) (fun g => ?_)
    · refine e_p 142 rfl rfl ?_
      refine e_l 144 rfl rfl ?_
      refine GD.loc (rfl : _ = [_, _, _, _, _, _, _, _]) ?_
      exact w_turns hL h2.1 (by omega) hc 5 0 J nn L _ (by omega) (by omega) hX hJ (by omega)
    · exact absurd (show (N : Int) ≤ (k : Int) by omega) g
  | succ m ih =>
    intro k J v nn o5 hk hX hJ h0 hc hn
    have hn6 := hJ.n6
    have hm := mh_le hn6
    refine e_l 64 rfl rfl ?_
    refine e_l 65 rfl rfl ?_
    refine e_ic_ge rfl (by omega) (by omega) (fun g => ?_) (fun g => ?_)
    · exact absurd g (by omega)
    · refine e_l 69 rfl rfl ?_
      refine e_if_eq rfl (by omega) (fun g2 => ?_) (fun g2 => ?_)
      · exact absurd g2 (by omega)
      · refine e_l 73 rfl rfl ?_
        refine e_p 74 rfl rfl ?_
        refine e_l 76 rfl rfl ?_
        refine e_p 77 rfl rfl ?_
        refine e_callG (by omega) rfl (l_cell (1 + k) hX (by omega) (by omega)) (fun r J0 hJ0 => ?_)
        obtain ⟨⟨z, rfl, hz⟩, rfl⟩ := hJ0
        refine e_l 82 rfl rfl ?_
        refine GD.loc (rfl : _ = [_, _, _, _, _, _, _, _]) ?_
        have put : ∀ c : Int, rng c → GD 20 k_L_law 121 [some (vR 1), some (vR 2), some (vI (N : Int)), some (vI 1), some (vI (k : Int)), some (vI z), o6, o7] [vI c, vR 2] (mS L J0) (fun r m => r = some (vI 1) ∧ ∃ (L' : Nat) (J : zI), L' ≤ 3072 ∧ m = mS L' J) := fun c hcr => by
          refine e_callG (by omega) rfl (z_piece (d := 14) hJ hcr (by omega)) (fun r J1 hJ1 => ?_) (hr := rcv2 rfl)
          obtain ⟨rfl, hJ1, f1⟩ := hJ1
          have ev : ∀ i, i ≠ 0 → i ≠ 1 + k → vAdd v c i = v i := fun i a b => by
            unfold vAdd
            rw [zup_n a, zup_n (by omega)]
          have e0 : vAdd v c 0 = v 0 + 1 := zup_s
          refine e_l 126 rfl rfl ?_
          refine e_ic_ne rfl (by omega) (by omega) (fun g3 => ?_) (fun g3 => ?_)
          · exact absurd h0 g3
          · refine e_p 130 rfl rfl ?_
            refine e_goto rfl ?_
            refine e_l 135 rfl rfl ?_
            refine GD.loc (rfl : _ = [_, _, _, _, _, _, _, _]) ?_
            refine e_l 138 rfl rfl ?_
            refine GD.loc (rfl : _ = [_, _, _, _, _, _, _, _]) ?_
            refine e_goto rfl ?_
            exact ih (k + 1) J1 _ _ _ (by omega) (fun j => by rw [f1 1 (by omega)]; exact hX j) hJ1 (by rw [e0]; omega) (fun p hp => by rw [ev _ (by omega) (by omega)]; exact hc p hp) (by omega)
        refine e_l 83 rfl rfl ?_
        refine e_l 85 rfl rfl ?_
        refine e_p 86 rfl rfl ?_
        refine e_callG (by omega) rfl (l_up (by omega)) (fun r J0 hJ0 => ?_)
        obtain ⟨rfl, rfl⟩ := hJ0
        have r1 := upz_rng (x := z) (m := 4) (by omega)
        refine e_if_ne rfl (by omega) (fun g3 => ?_) (fun g3 => ?_)
        · refine e_l 102 rfl rfl ?_
          refine e_p 103 rfl rfl ?_
          refine e_callG (by omega) rfl (l_up (by omega)) (fun r J0 hJ0 => ?_)
          obtain ⟨rfl, rfl⟩ := hJ0
          refine e_p 107 rfl rfl ?_
          refine e_ic_ne rfl (by omega) (by omega) (fun g4 => ?_) (fun g4 => ?_)
          · refine e_l 121 rfl rfl ?_
            exact put z hz
          · refine e_l 112 rfl rfl ?_
            refine e_p 115 rfl rfl ?_
            refine e_p 116 rfl rfl ?_
            refine e_goto rfl ?_
            exact put _ (zand_rr _ _)
        · refine e_l 94 rfl rfl ?_
          refine e_ld 96 rfl ?_
          refine e_p 97 rfl rfl ?_
          refine e_goto rfl ?_
          exact put _ (zand_rr _ _)
set_option maxRecDepth 16384 in
theorem w_first {L : Nat} {J : zI} {v : Nat → Int} {o2 o3 o4 o5 o6 o7 : Option zV} (hL : L ≤ 260) (hX : ∀ j, rng (J 1 j)) (hJ : Lst J v 0) (h0 : v 0 = 0) (h9 : v 9 = 4) (h10 : v 10 = 2) (hc : ∀ p, p < 8 → v (11 + p) = -1) : GD 20 k_L_law 8 [some (vR 1), some (vR 2), o2, o3, o4, o5, o6, o7] [] (mS L J) (fun r m => r = some (vI 1) ∧ ∃ (L' : Nat) (J : zI), L' ≤ 3072 ∧ m = mS L' J) := by
  have ho := hJ.ok
  have hf := fS_rng ho
  have eN : fN v = 0 := by
    unfold fN
    rw [h0]
    rfl
  have eG := gpA_0 eN
  have eE := edA_0 (w := 0) eN
  have eC := cs_empty (v := v) (fun j hj => hc j (by omega))
  have eX : nxA v 1 0 = -1 := by
    rcases nx_law (tu := 1) ho (Or.inr rfl) (Or.inr (Or.inr (Or.inr ⟨h9, h10⟩))) with h | ⟨P, C, a1, a2, a3, a4, a5, a6⟩
    · exact h.1
    · omega
  refine e_p 9 rfl rfl ?_
  refine e_l 10 rfl rfl ?_
  refine e_p 11 rfl rfl ?_
  refine e_callG (by omega) rfl (l_cell 0 hX rfl (by omega)) (fun r J0 hJ0 => ?_)
  obtain ⟨⟨z, rfl, hz⟩, rfl⟩ := hJ0
  refine e_p 16 rfl rfl ?_
  refine e_callG (by omega) rfl (l_up (by omega)) (fun r J0 hJ0 => ?_)
  obtain ⟨rfl, rfl⟩ := hJ0
  obtain ⟨j, hj, hj2⟩ := upz_nat (x := z) (m := 7) (by omega)
  rw [hj]
  refine e_p 20 rfl rfl ?_
  obtain ⟨N, hN, hN2⟩ : ∃ N : Nat, 2 + (j : Int) = (N : Int) ∧ 2 ≤ N ∧ N ≤ 8 := ⟨2 + j, by omega, by omega⟩
  rw [hN]
  refine e_l 21 rfl rfl ?_
  refine GD.loc (rfl : _ = [_, _, _, _, _, _, _, _]) ?_
  refine e_l 22 rfl rfl ?_
  refine e_callG (by omega) rfl (q_groups (d := 14) hJ) (fun r J1 hJ1 => ?_) (hr := rcv2 rfl)
  obtain ⟨rfl, hJ1, f1⟩ := hJ1
  rw [eG]
  refine e_if_ne rfl (by omega) (fun g1 => ?_) (fun g1 => ?_)
  · exact absurd rfl g1
  · refine e_l 29 rfl rfl ?_
    refine e_callG (by omega) rfl (q_cost (d := 14) hJ1) (fun r J2 hJ2 => ?_) (hr := rcv2 rfl)
    obtain ⟨rfl, hJ2, f2⟩ := hJ2
    rw [eC]
    refine e_if_ne rfl (by omega) (fun g2 => ?_) (fun g2 => ?_)
    · exact absurd rfl g2
    · refine e_l 36 rfl rfl ?_
      refine e_p 37 rfl rfl ?_
      refine e_p 38 rfl rfl ?_
      refine e_callG (by omega) rfl (q_next (d := 14) hJ2 (Or.inr rfl) (by omega)) (fun r J3 hJ3 => ?_) (hr := rcv2 rfl)
      obtain ⟨rfl, hJ3, f3⟩ := hJ3
      rw [eX]
      refine e_p 42 rfl rfl ?_
      refine e_ic_ne rfl (by omega) (by omega) (fun g3 => ?_) (fun g3 => ?_)
      · exact absurd rfl g3
      · refine e_l 46 rfl rfl ?_
        refine e_p 47 rfl rfl ?_
        refine e_callG (by omega) rfl (q_edges (d := 14) hJ3 (Or.inl rfl)) (fun r J4 hJ4 => ?_) (hr := rcv2 rfl)
        obtain ⟨rfl, hJ4, f4⟩ := hJ4
        rw [eE]
        refine e_if_ne rfl (by omega) (fun g4 => ?_) (fun g4 => ?_)
        · exact absurd rfl g4
        · refine e_p 54 rfl rfl ?_
          refine e_goto rfl ?_
          refine e_l 59 rfl rfl ?_
          refine GD.loc (rfl : _ = [_, _, _, _, _, _, _, _]) ?_
          refine e_p 60 rfl rfl ?_
          refine e_l 62 rfl rfl ?_
          refine GD.loc (rfl : _ = [_, _, _, _, _, _, _, _]) ?_
          exact w_pieces hL hN2 N 0 J4 v 0 _ (by omega) (fun j => by rw [f4 1 (by omega), f3 1 (by omega), f2 1 (by omega), f1 1 (by omega)]; exact hX j) hJ4 h0 hc (Or.inl (by omega))
end W1
