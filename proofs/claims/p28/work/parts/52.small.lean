/-! THE LAW: its small methods -/
theorem n32_rng (x : Int) : rng (n32 x) := by
  unfold n32
  have h1 := Int32.le_toInt (Int32.ofInt x)
  have h2 := Int32.toInt_lt (Int32.ofInt x)
  omega
theorem zand_max (x : Int) : 0 ≤ zand x 2147483647 ∧ zand x 2147483647 ≤ 2147483647 := by
  unfold zand
  obtain ⟨j, hj, e⟩ := pk_andE (Int32.ofInt x) (m := Int32.ofInt 2147483647) 31 (by decide +kernel)
  have hj2 : j < 2147483648 := hj
  rw [e, nI_toInt (by omega)]
  omega
def upz (x m : Int) : Int := zand x 2147483647 % m
theorem upz_rng {x m : Int} (hm : 0 < m) : 0 ≤ upz x m ∧ upz x m < m := ⟨Int.emod_nonneg _ (by omega), Int.emod_lt_of_pos _ hm⟩
theorem upz_nat {x m : Int} (hm : 0 < m) : ∃ j : Nat, upz x m = (j : Int) ∧ (j : Int) < m := by
  have h := upz_rng (x := x) hm
  obtain ⟨j, hj⟩ := Int.eq_ofNat_of_zero_le h.1
  exact ⟨j, hj, by omega⟩
section SM
variable {L d n : Nat} {I : zI} {v : Nat → Int}
theorem l_cell {x : Int} (k : Nat) (hX : ∀ j, rng (I 1 j)) (hx : x = (k : Int)) (hk : k < 1000) : Ct L d k_L_cell [vR 1, vI x] I (fun r J => (∃ z, r = some (vI z) ∧ rng z) ∧ J = I) := by
  subst hx
  show Go L d k_L_cell 0 [some (vR 1), some (vI k)] [] I _
  refine g_l 1 rfl rfl ?_
  refine g_l 2 rfl rfl ?_
  refine g_alen (n := L % 512) rfl rfl ?_
  refine g_ic_ge rfl (by omega) (by omega) (fun g => ?_) (fun g => ?_)
  · refine g_ld 14 rfl ?_
    refine g_l 15 rfl rfl ?_
    refine g_p 18 rfl rfl ?_
    refine g_p 19 rfl rfl ?_
    refine g_p 20 rfl rfl ?_
    exact g_ret rfl rfl ⟨⟨_, rfl, n32_rng _⟩, rfl⟩
  · refine g_l 7 rfl rfl ?_
    refine g_l 8 rfl rfl ?_
    refine g_ia (n := L % 512) k rfl rfl rfl (by omega) ?_
    refine g_goto rfl ?_
    exact g_ret rfl rfl ⟨⟨_, rfl, hX k⟩, rfl⟩
theorem l_up {x m : Int} (hm : 0 < m ∧ m ≤ 2147483647) : Ev L d k_L_up [vI x, vI m] I (some (vI (upz x m))) I := by
  have h := zand_max x
  show Go L d k_L_up 0 [some (vI x), some (vI m)] [] I _
  refine g_l 1 rfl rfl ?_
  refine g_ld 3 rfl ?_
  refine g_p 4 rfl rfl ?_
  refine g_l 5 rfl rfl ?_
  refine g_rem 6 rfl h hm ?_
  exact g_ret rfl rfl ⟨rfl, rfl⟩
set_option maxRecDepth 16384 in
theorem l_unlike {p q : Nat} (h : Lst I v n) (hp : (p : Int) < v 0) (hq : (q : Int) < v 0) : Ct L (d + 6) k_L_isUnlike [vR 2, vI p, vI q] I (fun r J => r = some (vI 1) ∧ Lst J v n ∧ FrC I J) := by
  have h0 := h.ok.1
  have fin : ∀ (J : zI) (o4 o5 o6 o7 o8 : Option zV), Lst J v n → FrC I J → Go L (d + 6) k_L_isUnlike 162 [some (vR 2), some (vI p), some (vI q), some (vI 1), o4, o5, o6, o7, o8] [] J (fun r J => r = some (vI 1) ∧ Lst J v n ∧ FrC I J) := fun J o4 o5 o6 o7 o8 hJ hF => by
    refine g_l 163 rfl rfl ?_
    exact g_retb rfl rfl (Or.inr rfl) ⟨rfl, hJ, hF⟩
  have key : ∀ (m k : Nat) (J : zI) (o5 o6 o7 o8 : Option zV), k + m = 16 → Lst J v n → FrC I J → Go L (d + 6) k_L_isUnlike 5 [some (vR 2), some (vI p), some (vI q), some (vI 1), some (vI k), o5, o6, o7, o8] [] J (fun r J => r = some (vI 1) ∧ Lst J v n ∧ FrC I J) := by
    intro m
    induction m with
    | zero =>
      intro k J o5 o6 o7 o8 hk hJ hF
      refine g_l 7 rfl rfl ?_
      refine g_p 9 rfl rfl ?_
      refine g_ic_ge rfl (by omega) (by omega) (fun g => ?_) (fun g => ?_)
      · exact fin J _ _ _ _ _ hJ hF
      · exact absurd (show 16 ≤ (k : Int) by omega) g
    | succ m ih =>
      intro k J o5 o6 o7 o8 hk hJ hF
      refine g_l 7 rfl rfl ?_
      refine g_p 9 rfl rfl ?_
      refine g_ic_ge rfl (by omega) (by omega) (fun g => ?_) (fun g => ?_)
      · exact absurd g (by omega)
      · refine g_l 13 rfl rfl ?_
        refine g_l 14 rfl rfl ?_
        refine g_ic_eq rfl (by omega) (by omega) (fun g2 => ?_) (fun g2 => ?_)
        · exact fin J _ _ _ _ _ hJ hF
        · have hpq : p ≠ q := fun e => g2 (by omega)
          have rA := fC_rng v (4 * p + k / 4)
          have rB := fC_rng v (4 * q + k % 4)
          have rD := dif_rng (fC v (4 * p + k / 4)) (fC v (4 * q + k % 4))
          have hz := dif_0 rA rB
          have hc := dif_comm (fC v (4 * p + k / 4)) (fC v (4 * q + k % 4))
          have e8 : bkL (fC v (4 * q + k % 4)) = rv (fC v (4 * q + k % 4)) := by
            obtain ⟨b, hb⟩ := Int.eq_ofNat_of_zero_le rB.1
            rw [hb]
            exact bk_rv b (by omega)
          have e9 : 0 ≤ rv (fC v (4 * q + k % 4)) ∧ rv (fC v (4 * q + k % 4)) ≤ 255 := by
            have := rvF_rng (fC v (4 * q + k % 4))
            unfold rv
            omega
          have c1 : ∀ J : zI, Lst J v n → Ct L (d + 5) k_X7_unlike [vR 2, vI p, vI ((k : Int) / 4), vI q, vI ((k : Int) % 4)] J (Pst J (dif (fC v (4 * p + k / 4)) (fC v (4 * q + k % 4))) v n) := fun J hJ => q_unl p (k / 4) q (k % 4) hJ rfl (by omega) rfl (by omega) hp (by omega) hq (by omega) hpq
          have c2 : ∀ J : zI, Lst J v n → Ct L (d + 5) k_X7_unlike [vR 2, vI q, vI ((k : Int) % 4), vI p, vI ((k : Int) / 4)] J (Pst J (dif (fC v (4 * p + k / 4)) (fC v (4 * q + k % 4))) v n) := fun J hJ => by
            rw [hc]
            exact q_unl q (k % 4) p (k / 4) hJ rfl (by omega) rfl (by omega) hq (by omega) hp (by omega) (fun e => hpq e.symm)
          have c3 : ∀ J : zI, Lst J v n → Ct L (d + 5) k_X7_edge [vR 2, vI p, vI ((k : Int) / 4)] J (Pst J (fC v (4 * p + k / 4)) v n) := fun J hJ => q_edge p (k / 4) hJ rfl (by omega) hp (by omega)
          have c4 : ∀ J : zI, Lst J v n → Ct L (d + 5) k_X7_edge [vR 2, vI q, vI ((k : Int) % 4)] J (Pst J (fC v (4 * q + k % 4)) v n) := fun J hJ => q_edge q (k % 4) hJ rfl (by omega) hq (by omega)
          generalize dif (fC v (4 * p + k / 4)) (fC v (4 * q + k % 4)) = D at rD hz c1 c2
          generalize fC v (4 * p + k / 4) = A at rA hz c3
          generalize fC v (4 * q + k % 4) = B at rB hz e8 e9 c4
          refine g_l 18 rfl rfl ?_
          refine g_l 19 rfl rfl ?_
          refine g_l 21 rfl rfl ?_
          refine g_p 22 rfl rfl ?_
          refine g_div 23 rfl (by omega) (by omega) ?_
          refine g_l 24 rfl rfl ?_
          refine g_l 26 rfl rfl ?_
          refine g_p 27 rfl rfl ?_
          refine g_rem 28 rfl (by omega) (by omega) ?_
          refine g_call rfl (c1 J hJ) (fun r J1 hJ1 => ?_) (hr := rcv2 rfl)
          obtain ⟨rfl, hJ1, f1⟩ := hJ1
          refine g_l 33 rfl rfl ?_
          refine Go.lv (rfl : _ = [_, _, _, _, _, _, _, _, _]) ?_
          refine g_l 34 rfl rfl ?_
          refine g_l 35 rfl rfl ?_
          refine g_l 37 rfl rfl ?_
          refine g_p 38 rfl rfl ?_
          refine g_div 39 rfl (by omega) (by omega) ?_
          refine g_call rfl (c3 J1 hJ1) (fun r J2 hJ2 => ?_) (hr := rcv2 rfl)
          obtain ⟨rfl, hJ2, f2⟩ := hJ2
          refine g_l 44 rfl rfl ?_
          refine Go.lv (rfl : _ = [_, _, _, _, _, _, _, _, _]) ?_
          refine g_l 45 rfl rfl ?_
          refine g_l 46 rfl rfl ?_
          refine g_l 48 rfl rfl ?_
          refine g_p 49 rfl rfl ?_
          refine g_rem 50 rfl (by omega) (by omega) ?_
          refine g_call rfl (c4 J2 hJ2) (fun r J3 hJ3 => ?_) (hr := rcv2 rfl)
          obtain ⟨rfl, hJ3, f3⟩ := hJ3
          have hF3 := ((hF.tr f1).tr f2).tr f3
          refine g_l 55 rfl rfl ?_
          refine Go.lv (rfl : _ = [_, _, _, _, _, _, _, _, _]) ?_
          refine g_l 57 rfl rfl ?_
          refine g_p 59 rfl rfl ?_
          refine g_p 60 rfl rfl ?_
          refine g_p 61 rfl rfl ?_
          refine g_p 62 rfl rfl ?_
          refine g_l 64 rfl rfl ?_
          refine g_p 65 rfl rfl ?_
          refine g_p 66 rfl rfl ?_
          refine g_p 68 rfl rfl ?_
          refine g_p 69 rfl rfl ?_
          refine g_p 70 rfl rfl ?_
          refine g_l 72 rfl rfl ?_
          refine g_p 73 rfl rfl ?_
          refine g_p 74 rfl rfl ?_
          refine g_p 76 rfl rfl ?_
          refine g_p 77 rfl rfl ?_
          refine g_p 78 rfl rfl ?_
          refine g_l 80 rfl rfl ?_
          refine g_p 82 rfl rfl ?_
          refine g_p 83 rfl rfl ?_
          refine g_p 86 rfl rfl ?_
          refine g_p 87 rfl rfl ?_
          refine g_p 88 rfl rfl ?_
          unfold bkL at e8
          rw [e8]
          refine g_l 90 rfl rfl ?_
          refine Go.lv (rfl : _ = [_, _, _, _, _, _, _, _, _]) ?_
          refine g_l 91 rfl rfl ?_
          refine g_if_eq rfl (by omega) (fun g3 => ?_) (fun g3 => ?_)
          · exact absurd g3 (by omega)
          · refine g_l 96 rfl rfl ?_
            refine g_l 97 rfl rfl ?_
            refine g_l 98 rfl rfl ?_
            refine g_l 100 rfl rfl ?_
            refine g_p 101 rfl rfl ?_
            refine g_rem 102 rfl (by omega) (by omega) ?_
            refine g_l 103 rfl rfl ?_
            refine g_l 105 rfl rfl ?_
            refine g_p 106 rfl rfl ?_
            refine g_div 107 rfl (by omega) (by omega) ?_
            refine g_call rfl (c2 J3 hJ3) (fun r J4 hJ4 => ?_) (hr := rcv2 rfl)
            obtain ⟨rfl, hJ4, f4⟩ := hJ4
            have hF4 := hF3.tr f4
            refine g_ic_ne rfl (by omega) (by omega) (fun g4 => ?_) (fun g4 => ?_)
            · exact absurd rfl g4
            · refine g_l 115 rfl rfl ?_
              refine g_if_lt rfl (by omega) (fun g5 => ?_) (fun g5 => ?_)
              · exact absurd g5 (by omega)
              · refine g_l 120 rfl rfl ?_
                refine g_p 122 rfl rfl ?_
                refine g_ic_gt rfl (by omega) (by omega) (fun g6 => ?_) (fun g6 => ?_)
                · exact absurd g6 (by omega)
                · refine g_l 127 rfl rfl ?_
                  refine g_if_ne rfl (by omega) (fun g7 => ?_) (fun g7 => ?_)
                  · have g8 : ¬ A = rv B := fun z => g7 (hz.mpr z)
                    refine g_p 135 rfl rfl ?_
                    refine g_l 137 rfl rfl ?_
                    refine g_l 139 rfl rfl ?_
                    refine g_ic_ne rfl (by omega) (by omega) (fun g9 => ?_) (fun g9 => ?_)
                    · refine g_p 147 rfl rfl ?_
                      refine g_ic_ne rfl (by omega) (by omega) (fun g10 => ?_) (fun g10 => ?_)
                      · exact absurd rfl g10
                      · refine g_p 151 rfl rfl ?_
                        refine g_goto rfl ?_
                        refine g_l 156 rfl rfl ?_
                        refine Go.lv (rfl : _ = [_, _, _, _, _, _, _, _, _]) ?_
                        refine g_l 159 rfl rfl ?_
                        refine Go.lv (rfl : _ = [_, _, _, _, _, _, _, _, _]) ?_
                        refine g_goto rfl ?_
                        exact ih (k + 1) J4 _ _ _ _ (by omega) hJ4 hF4
                    · exact absurd g8 g9
                  · have g8 : A = rv B := hz.mp (by omega)
                    refine g_p 131 rfl rfl ?_
                    refine g_goto rfl ?_
                    refine g_l 137 rfl rfl ?_
                    refine g_l 139 rfl rfl ?_
                    refine g_ic_ne rfl (by omega) (by omega) (fun g9 => ?_) (fun g9 => ?_)
                    · exact absurd g8 g9
                    · refine g_p 143 rfl rfl ?_
                      refine g_goto rfl ?_
                      refine g_ic_ne rfl (by omega) (by omega) (fun g10 => ?_) (fun g10 => ?_)
                      · exact absurd rfl g10
                      · refine g_p 151 rfl rfl ?_
                        refine g_goto rfl ?_
                        refine g_l 156 rfl rfl ?_
                        refine Go.lv (rfl : _ = [_, _, _, _, _, _, _, _, _]) ?_
                        refine g_l 159 rfl rfl ?_
                        refine Go.lv (rfl : _ = [_, _, _, _, _, _, _, _, _]) ?_
                        refine g_goto rfl ?_
                        exact ih (k + 1) J4 _ _ _ _ (by omega) hJ4 hF4
  show Go L (d + 6) k_L_isUnlike 0 [some (vR 2), some (vI p), some (vI q), none, none, none, none, none, none] [] I _
  refine g_p 1 rfl rfl ?_
  refine g_l 2 rfl rfl ?_
  refine Go.lv (rfl : _ = [_, _, _, _, _, _, _, _, _]) ?_
  refine g_p 3 rfl rfl ?_
  refine g_l 5 rfl rfl ?_
  refine Go.lv (rfl : _ = [_, _, _, _, _, _, _, _, _]) ?_
  exact key 16 0 I _ _ _ _ (by omega) h FrC.rf
end SM
