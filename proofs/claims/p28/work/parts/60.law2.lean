/-! THE LAW: the table -/
section W2
variable {L d n : Nat} {J : zI} {v : Nat → Int}
theorem tab_at {v : Nat → Int} {w g : Int} (p : Nat) (hp : p < 8) : vTab v w g (11 + p) = -1 := by
  unfold vTab
  rw [if_neg (by omega), if_neg (by omega), if_neg (by omega), if_pos (by omega)]
theorem ly_0 {v : Nat → Int} (ho : OKv v) (h : ∀ p, p < 8 → v (11 + p) = -1) : lyg v = 0 := by
  have hf := fS_rng ho
  rw [ly_sg]
  exact sgF_z _ (fun p hp => b2c_0 (fun z => z (h p (by omega))))
set_option maxRecDepth 16384 in
theorem w_puts {N : Nat} {w4 : Int} {o6 o7 : Option zV} (h2 : 2 ≤ N) : ∀ (m k : Nat) (J : zI) (x : Nat → Int), k + m = N → (∀ j, rng (J 1 j)) → Lst J x 6 → x 0 = (N : Int) → x 9 = (N : Int) → x 10 = 1 → (∀ j : Nat, j < 8 → x (11 + j) = if j < k then 4 * (j : Int) else -1) → csA x = sgF (aI x) k → Go L (d + 20) k_L_law 407 [some (vR 1), some (vR 2), some (vI (N : Int)), some (vI 1), some (vI w4), some (vI (k : Int)), o6, o7] [] J (fun r (_ : zI) => r = some (vI 1)) := by
  intro m
  induction m with
  | zero =>
    intro k J x hk hX hJ h0 h9 h10 hc hcs
    have hN8 := hJ.ok.1
    have hkN : k = N := by omega
    subst hkN
    refine g_l 409 rfl rfl ?_
    refine g_l 410 rfl rfl ?_
    refine g_ic_ge rfl (by omega) (by omega) (fun g => ?_) (fun g => ?_)
    · exact w_join hX hJ h0 h2 h9 h10 (fun j hj => by rw [hc j (by omega), if_pos hj]) hcs
    · exact absurd (Int.le_refl _) g
  | succ m ih =>
    intro k J x hk hX hJ h0 h9 h10 hc hcs
    have ho := hJ.ok
    have hN8 := ho.1
    have hfN := fN_le ho
    have eN : fN x = N := by omega
    have hS : fS x = (N : Int) := by
      unfold fS
      rw [h9, h10, Int.mul_one]
    have hv : x (11 + k) = -1 := by rw [hc k (by omega), if_neg (by omega)]
    have hfr : frP x ((k : Nat) : Int) := by
      rcases pl_rng (c := vc x) (n := fS x) (k := ((k : Nat) : Int)) (by omega) with h | ⟨h1, h2, h3, h4⟩
      · exact h
      · obtain ⟨j, hj⟩ := Int.eq_ofNat_of_zero_le h1
        rw [hj, Int.toNat_natCast] at h3 h4
        have e : vc x j = if j < k then 4 * (j : Int) else -1 := hc j (by omega)
        rw [e] at h3 h4
        split at h3
        · rename_i hjk
          rw [if_pos hjk] at h4
          omega
        · exact absurd rfl h3
    have hok := ok_vput (t := 0) ho (by omega) (show k < fN x by omega) (by omega) hv hfr
    have hput := cs_put (x := ((4 * k + 0 : Nat) : Int)) ho hok hv (by omega) (by omega)
    have hsame := put_same x k ((4 * k + 0 : Nat) : Int) ho.1.2
    have ha : adA x k ((4 * k + 0 : Nat) : Int) = aI x k := by
      unfold adA aI adC
      rw [h9, hS, eN, show ((4 * k + 0 : Nat) : Int) = 4 * (k : Int) by omega]
      refine adF_eq (by omega) (by omega) (by rw [Int.emod_self]) (by omega) (fun j hj => ?_) 4 0
      show x (11 + j) = rowc idR k j
      rw [hc j hj]
      unfold rowc idR
      rfl
    have hr := adA_nn x k ((4 * k + 0 : Nat) : Int)
    refine g_l 409 rfl rfl ?_
    refine g_l 410 rfl rfl ?_
    refine g_ic_ge rfl (by omega) (by omega) (fun g => ?_) (fun g => ?_)
    · exact absurd g (by omega)
    · refine g_l 414 rfl rfl ?_
      refine g_if_eq rfl (by omega) (fun g2 => ?_) (fun g2 => ?_)
      · exact absurd g2 (by omega)
      · refine g_l 418 rfl rfl ?_
        refine g_l 420 rfl rfl ?_
        refine g_l 422 rfl rfl ?_
        refine g_p 423 rfl rfl ?_
        refine g_call rfl (z_puts k k 0 hJ rfl rfl rfl (by omega) (by omega) (by omega) hv hfr) (fun r J1 hJ1 => ?_) (hr := rcv2 rfl)
        obtain ⟨rfl, hJ1, f1⟩ := hJ1
        refine g_if_lt rfl (by omega) (fun g3 => ?_) (fun g3 => ?_)
        · exact absurd g3 (by omega)
        · refine g_p 430 rfl rfl ?_
          refine g_goto rfl ?_
          refine g_l 435 rfl rfl ?_
          refine Go.lv (rfl : _ = [_, _, _, _, _, _, _, _]) ?_
          refine g_l 438 rfl rfl ?_
          refine Go.lv (rfl : _ = [_, _, _, _, _, _, _, _]) ?_
          refine g_goto rfl ?_
          refine ih (k + 1) J1 _ (by omega) (fun j => by rw [f1 1 (by omega)]; exact hX j) hJ1 (by rw [hsame.1]; exact h0) (by rw [hsame.2.1]; exact h9) (by rw [hsame.2.2.1]; exact h10) (fun j hj => ?_) ?_
          · by_cases hjk : j = k
            · rw [hjk, show vPut x k ((4 * k + 0 : Nat) : Int) (11 + k) = ((4 * k + 0 : Nat) : Int) from zup_s, if_pos (by omega)]
              omega
            · rw [show vPut x k ((4 * k + 0 : Nat) : Int) (11 + j) = x (11 + j) from zup_n (by omega), hc j hj]
              by_cases hjl : j < k
              · rw [if_pos hjl, if_pos (by omega)]
              · rw [if_neg hjl, if_neg (by omega)]
          · have e : aI (vPut x k ((4 * k + 0 : Nat) : Int)) = aI x := by
              unfold aI
              rw [hsame.2.2.2.1, hsame.2.2.2.2.1]
            rw [hput, e, sgF, hcs, ha]
set_option maxRecDepth 16384 in
theorem w_next {N : Nat} {w g S M : Int} {o6 o7 : Option zV} (h2 : 2 ≤ N ∧ N ≤ 8) (hw : (w = 1 ∧ g = 8) ∨ (w = 2 ∧ g = 4) ∨ (w = 3 ∧ g = 2) ∨ (w = 4 ∧ g = 2)) (hS : w * g = S ∧ 6 ≤ S ∧ S ≤ 8) (hM : M ≤ N ∧ M ≤ S ∧ (M = N ∨ M = S)) (e8 : 8 / w = g) : ∀ (m k : Nat) (J : zI) (u : Nat → Int) (nn : Nat), k + m = N + 1 → (∀ j, rng (J 1 j)) → Lst J u nn → u 0 = (N : Int) → u 9 = w → u 10 = g → (lyg u = (k : Int) ∧ (k : Int) ≤ M ∨ lyg u = M ∧ M ≤ (k : Int)) → 3 ≤ nn → (nn = 6 ∨ 3 + lyg u ≤ nn) → Go L (d + 20) k_L_law 325 [some (vR 1), some (vR 2), some (vI (N : Int)), some (vI 1), some (vI w), some (vI (k : Int)), o6, o7] [] J (fun r (_ : zI) => r = some (vI 1)) := by
  intro m
  induction m with
  | zero =>
    intro k J u nn hk hX hJ h0 h9 h10 hl h3 h6
    have ho := hJ.ok
    have hn6 := hJ.n6
    have hlM : lyg u = M := by omega
    have hm := mh_le hn6
    have hmh : mh nn = 6 := by
      unfold mh
      split <;> omega
    have fin : ∀ J1 : zI, (∀ j, rng (J1 1 j)) → Lst J1 (vTab u (N : Int) 1) 6 → Go L (d + 20) k_L_law 398 [some (vR 1), some (vR 2), some (vI (N : Int)), some (vI 1), some (vI w), some (vI (k : Int)), o6, o7] [] J1 (fun r (_ : zI) => r = some (vI 1)) := fun J1 hX1 hJ1 => by
      have hok1 := hJ1.ok
      have hc : ∀ p, p < 8 → vTab u (N : Int) 1 (11 + p) = -1 := fun p hp => tab_at p hp
      have hf1 := fS_rng hok1
      refine g_p 399 rfl rfl ?_
      refine g_goto rfl ?_
      refine g_l 404 rfl rfl ?_
      refine Go.lv (rfl : _ = [_, _, _, _, _, _, _, _]) ?_
      refine g_p 405 rfl rfl ?_
      refine g_l 407 rfl rfl ?_
      refine Go.lv (rfl : _ = [_, _, _, _, _, _, _, _]) ?_
      refine w_puts h2.1 N 0 J1 _ (by omega) hX1 hJ1 ?_ rfl rfl (fun j hj => ?_) ?_
      · show vTab u (N : Int) 1 0 = _
        unfold vTab
        rw [if_pos (by omega)]
        exact h0
      · rw [hc j hj, if_neg (by omega)]
      · rw [cs_empty (fun j hj => hc j (by omega))]
        rfl
    refine g_l 327 rfl rfl ?_
    refine g_l 328 rfl rfl ?_
    refine g_p 329 rfl rfl ?_
    refine g_p 330 rfl rfl ?_
    refine g_ic_ge rfl (by omega) (by omega) (fun g1 => ?_) (fun g1 => ?_)
    · refine g_l 362 rfl rfl ?_
      refine g_if_eq rfl (by omega) (fun g2 => ?_) (fun g2 => ?_)
      · exact absurd g2 (by omega)
      · refine g_l 366 rfl rfl ?_
        refine g_l 367 rfl rfl ?_
        refine g_p 368 rfl rfl ?_
        refine g_call rfl (z_table hJ ⟨by omega, by omega, by omega⟩) (fun r J1 hJ1 => ?_) (hr := rcv2 rfl)
        obtain ⟨rfl, hJ1, f1⟩ := hJ1
        rw [hmh] at hJ1
        have hX1 : ∀ j, rng (J1 1 j) := fun j => by rw [f1 1 (by omega)]; exact hX j
        rw [hlM]
        refine g_l 372 rfl rfl ?_
        refine g_l 374 rfl rfl ?_
        refine g_p 376 rfl rfl ?_
        refine g_l 378 rfl rfl ?_
        refine g_div 379 rfl (by omega) (by omega) ?_
        rw [e8]
        refine g_p 380 rfl rfl ?_
        rw [hS.1]
        refine g_ic_ge rfl (by omega) (by omega) (fun g3 => ?_) (fun g3 => ?_)
        · refine g_l 389 rfl rfl ?_
          refine g_p 391 rfl rfl ?_
          refine g_l 393 rfl rfl ?_
          refine g_div 394 rfl (by omega) (by omega) ?_
          rw [e8]
          refine g_p 395 rfl rfl ?_
          rw [hS.1]
          refine g_ic_ne rfl (by omega) (by omega) (fun g4 => ?_) (fun g4 => ?_)
          · exact absurd (show M = S by omega) g4
          · exact fin J1 hX1 hJ1
        · refine g_l 384 rfl rfl ?_
          refine g_goto rfl ?_
          refine g_ic_ne rfl (by omega) (by omega) (fun g4 => ?_) (fun g4 => ?_)
          · exact absurd (show M = (N : Int) by omega) g4
          · exact fin J1 hX1 hJ1
    · exact absurd (show (N : Int) + 1 ≤ (k : Int) by omega) g1
  | succ m ih =>
    intro k J u nn hk hX hJ h0 h9 h10 hl h3 h6
    have ho := hJ.ok
    have hfS : fS u = S := by
      unfold fS
      rw [h9, h10]
      exact hS.1
    refine g_l 327 rfl rfl ?_
    refine g_l 328 rfl rfl ?_
    refine g_p 329 rfl rfl ?_
    refine g_p 330 rfl rfl ?_
    refine g_ic_ge rfl (by omega) (by omega) (fun g1 => ?_) (fun g1 => ?_)
    · exact absurd g1 (by omega)
    · refine g_l 334 rfl rfl ?_
      refine g_if_eq rfl (by omega) (fun g2 => ?_) (fun g2 => ?_)
      · exact absurd g2 (by omega)
      · refine g_l 338 rfl rfl ?_
        refine g_l 339 rfl rfl ?_
        refine g_p 341 rfl rfl ?_
        refine g_call rfl (l_cell 15 hX rfl (by omega)) (fun r J0 hJ0 => ?_)
        obtain ⟨⟨z, rfl, hz⟩, rfl⟩ := hJ0
        refine g_l 346 rfl rfl ?_
        refine g_p 347 rfl rfl ?_
        refine g_p 348 rfl rfl ?_
        refine g_callE rfl (l_up (by omega)) ?_
        obtain ⟨j, hj, hj2⟩ := upz_nat (x := zshr z (k : Int)) (m := 2) (by omega)
        rw [hj]
        refine g_call rfl (l_next (d := d + 12) hJ (by omega) (by unfold tab4; rw [h9, h10]; exact hw)) (fun r J1 hJ1 => ?_)
        obtain ⟨rfl, f1, u', n', hJ1, ⟨a0, a9, a10⟩, b1, b2, b3⟩ := hJ1
        refine g_l 355 rfl rfl ?_
        refine Go.lv (rfl : _ = [_, _, _, _, _, _, _, _]) ?_
        refine g_l 358 rfl rfl ?_
        refine Go.lv (rfl : _ = [_, _, _, _, _, _, _, _]) ?_
        refine g_goto rfl ?_
        refine ih (k + 1) J1 u' n' (by omega) (fun j => by rw [f1 1 (by omega)]; exact hX j) hJ1 (by rw [a0, h0]) (by rw [a9, h9]) (by rw [a10, h10]) ?_ (by omega) ?_
        · rw [hfS, h0] at b2 b3
          by_cases hlt : lyg u < S ∧ lyg u < (N : Int)
          · have := (b2 hlt).1
            omega
          · have := b3 hlt
            omega
        · rw [hfS, h0] at b2 b3
          have hn6 := hJ1.n6
          by_cases hlt : lyg u < S ∧ lyg u < (N : Int)
          · have := b2 hlt
            omega
          · have := b3 hlt
            omega
theorem edA_nn (u : Nat → Int) (w : Int) : 0 ≤ edA u w := by
  rw [edA_sg]
  exact sgF_0 _ (fun s _ => by rcases b2c_r (¬ sbF (fC u) w s s 0) with h | h <;> omega)
theorem cp_nn (M : Nat → Int) : ∀ m s, 0 ≤ cpF M m s
  | 0, _ => Int.le_refl _
  | m + 1, s => by
    have := cp_nn M m (s + 1)
    rw [cpF]
    split <;> omega
theorem prA_nn (u : Nat → Int) : 0 ≤ prA u (-1) := by
  have e : prA u (-1) = cpF (fM u) (4 * fN u) 0 := if_pos rfl
  rw [e]
  exact cp_nn _ _ _
set_option maxRecDepth 16384 in
theorem w_mid {N : Nat} {o4 o5 o6 o7 : Option zV} (hX : ∀ j, rng (J 1 j)) (hJ : Lst J v n) (hN : v 0 = (N : Int)) (h2 : 2 ≤ N) (hn : 2 ≤ n) (hc : ∀ p, p < 8 → v (11 + p) = -1) : Go L (d + 20) k_L_law 223 [some (vR 1), some (vR 2), some (vI (N : Int)), some (vI 1), o4, o5, o6, o7] [] J (fun r (_ : zI) => r = some (vI 1)) := by
  have ho := hJ.ok
  have hN8 := ho.1
  have hfN := fN_le ho
  have eN : fN v = N := by omega
  have hly := ly_0 ho hc
  have gr := gpA_rng (v := v) (by omega)
  have ed := edA_01 v
  have e1 := edA_nn v 1
  have pr := prA_le v
  have pn := prA_nn v
  have hn6 := hJ.n6
  have hm := mh_le hn6
  refine g_l 224 rfl rfl ?_
  refine g_if_eq rfl (by omega) (fun g1 => ?_) (fun g1 => ?_)
  · exact absurd g1 (by omega)
  · refine g_l 228 rfl rfl ?_
    refine g_call rfl (q_groups hJ) (fun r J1 hJ1 => ?_) (hr := rcv2 rfl)
    obtain ⟨rfl, hJ1, f1⟩ := hJ1
    refine g_p 232 rfl rfl ?_
    refine g_ic_lt rfl (by omega) (by omega) (fun g2 => ?_) (fun g2 => ?_)
    · exact absurd g2 (by omega)
    · refine g_l 236 rfl rfl ?_
      refine g_call rfl (q_groups hJ1) (fun r J2 hJ2 => ?_) (hr := rcv2 rfl)
      obtain ⟨rfl, hJ2, f2⟩ := hJ2
      refine g_l 240 rfl rfl ?_
      refine g_ic_gt rfl (by omega) (by omega) (fun g3 => ?_) (fun g3 => ?_)
      · exact absurd g3 (by omega)
      · refine g_l 244 rfl rfl ?_
        refine g_p 245 rfl rfl ?_
        refine g_call rfl (q_edges hJ2 (Or.inr rfl)) (fun r J3 hJ3 => ?_) (hr := rcv2 rfl)
        obtain ⟨rfl, hJ3, f3⟩ := hJ3
        refine g_l 249 rfl rfl ?_
        refine g_p 250 rfl rfl ?_
        refine g_call rfl (q_edges hJ3 (Or.inl rfl)) (fun r J4 hJ4 => ?_) (hr := rcv2 rfl)
        obtain ⟨rfl, hJ4, f4⟩ := hJ4
        refine g_ic_gt rfl (by omega) (by omega) (fun g4 => ?_) (fun g4 => ?_)
        · exact absurd g4 (by omega)
        · refine g_l 257 rfl rfl ?_
          refine g_p 258 rfl rfl ?_
          refine g_call rfl (q_edges hJ4 (Or.inl rfl)) (fun r J5 hJ5 => ?_) (hr := rcv2 rfl)
          obtain ⟨rfl, hJ5, f5⟩ := hJ5
          refine g_p 262 rfl rfl ?_
          refine g_l 263 rfl rfl ?_
          refine g_p 264 rfl rfl ?_
          refine g_ic_gt rfl (by omega) (by omega) (fun g5 => ?_) (fun g5 => ?_)
          · exact absurd g5 (by omega)
          · refine g_l 268 rfl rfl ?_
            refine g_p 269 rfl rfl ?_
            refine g_call rfl (q_pairs hJ5) (fun r J6 hJ6 => ?_) (hr := rcv2 rfl)
            obtain ⟨rfl, hJ6, f6⟩ := hJ6
            refine g_p 273 rfl rfl ?_
            refine g_l 274 rfl rfl ?_
            refine g_p 275 rfl rfl ?_
            refine g_ic_gt rfl (by omega) (by omega) (fun g6 => ?_) (fun g6 => ?_)
            · exact absurd g6 (by omega)
            · have hX6 : ∀ j, rng (J6 1 j) := fun j => by
                rw [f6 1 (by omega), f5 1 (by omega), f4 1 (by omega), f3 1 (by omega), f2 1 (by omega), f1 1 (by omega)]
                exact hX j
              refine g_p 279 rfl rfl ?_
              refine g_goto rfl ?_
              refine g_l 284 rfl rfl ?_
              refine Go.lv (rfl : _ = [_, _, _, _, _, _, _, _]) ?_
              refine g_p 285 rfl rfl ?_
              refine g_l 286 rfl rfl ?_
              refine g_p 288 rfl rfl ?_
              refine g_call rfl (l_cell 14 hX6 rfl (by omega)) (fun r J0 hJ0 => ?_)
              obtain ⟨⟨z, rfl, hz⟩, rfl⟩ := hJ0
              refine g_p 292 rfl rfl ?_
              refine g_callE rfl (l_up (by omega)) ?_
              obtain ⟨j, hj, hj2⟩ := upz_nat (x := z) (m := 4) (by omega)
              rw [hj]
              refine g_p 296 rfl rfl ?_
              obtain ⟨w, g, S, hwj, hw, hS, e8⟩ : ∃ w g S : Int, 1 + (j : Int) = w ∧ ((w = 1 ∧ g = 8) ∨ (w = 2 ∧ g = 4) ∨ (w = 3 ∧ g = 2) ∨ (w = 4 ∧ g = 2)) ∧ (w * g = S ∧ 6 ≤ S ∧ S ≤ 8) ∧ 8 / w = g := by
                have hjc : j = 0 ∨ j = 1 ∨ j = 2 ∨ j = 3 := by omega
                rcases hjc with rfl | rfl | rfl | rfl
                · exact ⟨1, 8, 8, by decide, by decide, by decide, by decide⟩
                · exact ⟨2, 4, 8, by decide, by decide, by decide, by decide⟩
                · exact ⟨3, 2, 6, by decide, by decide, by decide, by decide⟩
                · exact ⟨4, 2, 8, by decide, by decide, by decide, by decide⟩
              rw [hwj]
              refine g_l 298 rfl rfl ?_
              refine Go.lv (rfl : _ = [_, _, _, _, _, _, _, _]) ?_
              refine g_l 299 rfl rfl ?_
              refine g_if_eq rfl (by omega) (fun g7 => ?_) (fun g7 => ?_)
              · exact absurd g7 (by omega)
              · refine g_l 303 rfl rfl ?_
                refine g_l 305 rfl rfl ?_
                refine g_p 307 rfl rfl ?_
                refine g_l 309 rfl rfl ?_
                refine g_div 310 rfl (by omega) (by omega) ?_
                rw [e8]
                refine g_call rfl (z_table hJ6 ⟨by omega, by omega, by omega⟩) (fun r J7 hJ7 => ?_) (hr := rcv2 rfl)
                obtain ⟨rfl, hJ7, f7⟩ := hJ7
                rw [hly]
                refine g_if_ne rfl (by omega) (fun g8 => ?_) (fun g8 => ?_)
                · exact absurd rfl g8
                · refine g_p 317 rfl rfl ?_
                  refine g_goto rfl ?_
                  refine g_l 322 rfl rfl ?_
                  refine Go.lv (rfl : _ = [_, _, _, _, _, _, _, _]) ?_
                  refine g_p 323 rfl rfl ?_
                  refine g_l 325 rfl rfl ?_
                  refine Go.lv (rfl : _ = [_, _, _, _, _, _, _, _]) ?_
                  have h0 : vTab v w g 0 = (N : Int) := by
                    unfold vTab
                    rw [if_pos (by omega)]
                    exact hN
                  have hl0 := ly_0 hJ7.ok (fun p hp => tab_at p hp)
                  exact w_next (M := if (N : Int) ≤ S then N else S) ⟨h2, by omega⟩ hw hS (by split <;> omega) e8 (N + 1) 0 J7 _ _ (by omega) (fun j => by rw [f7 1 (by omega)]; exact hX6 j) hJ7 h0 rfl rfl (Or.inl ⟨by rw [hl0]; rfl, by split <;> omega⟩) (by omega) (Or.inr (by rw [hl0]; omega))
end W2
