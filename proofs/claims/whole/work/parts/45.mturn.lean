/-! EdgeJoinModel: quarters -/
def tT (b : Int) (i j : Nat) : Int := zshl (col b i) (2 * (j : Int))
def qrF (b : Int) : Nat → Int
  | 0 => 0
  | k + 1 => zor (qrF b k) (tT b (4 * (3 - k % 4) + k / 4) k)
theorem tqF_s (b : Int) (n : Nat) (h : n < 16) : tqF b (n + 1) = zor (tqF b n) (tT b n (4 * (n % 4) + 3 - n / 4)) := by
  rw [tqF]
  have e1 : 4 * ((n / 4 : Nat) : Int) + ((n % 4 : Nat) : Int) = (n : Int) := by omega
  have e2 : 2 * (4 * ((n % 4 : Nat) : Int) + 3 - ((n / 4 : Nat) : Int)) = 2 * ((4 * (n % 4) + 3 - n / 4 : Nat) : Int) := by omega
  rw [e1, e2]
  rfl
theorem qr_tq (b : Int) : qrF b 16 = tq b := by
  have a0 : tqF b 1 = zor (tqF b 0) (tT b 0 3) := tqF_s b 0 (by decide)
  have a1 : tqF b 2 = zor (tqF b 1) (tT b 1 7) := tqF_s b 1 (by decide)
  have a2 : tqF b 3 = zor (tqF b 2) (tT b 2 11) := tqF_s b 2 (by decide)
  have a3 : tqF b 4 = zor (tqF b 3) (tT b 3 15) := tqF_s b 3 (by decide)
  have a4 : tqF b 5 = zor (tqF b 4) (tT b 4 2) := tqF_s b 4 (by decide)
  have a5 : tqF b 6 = zor (tqF b 5) (tT b 5 6) := tqF_s b 5 (by decide)
  have a6 : tqF b 7 = zor (tqF b 6) (tT b 6 10) := tqF_s b 6 (by decide)
  have a7 : tqF b 8 = zor (tqF b 7) (tT b 7 14) := tqF_s b 7 (by decide)
  have a8 : tqF b 9 = zor (tqF b 8) (tT b 8 1) := tqF_s b 8 (by decide)
  have a9 : tqF b 10 = zor (tqF b 9) (tT b 9 5) := tqF_s b 9 (by decide)
  have a10 : tqF b 11 = zor (tqF b 10) (tT b 10 9) := tqF_s b 10 (by decide)
  have a11 : tqF b 12 = zor (tqF b 11) (tT b 11 13) := tqF_s b 11 (by decide)
  have a12 : tqF b 13 = zor (tqF b 12) (tT b 12 0) := tqF_s b 12 (by decide)
  have a13 : tqF b 14 = zor (tqF b 13) (tT b 13 4) := tqF_s b 13 (by decide)
  have a14 : tqF b 15 = zor (tqF b 14) (tT b 14 8) := tqF_s b 14 (by decide)
  have a15 : tqF b 16 = zor (tqF b 15) (tT b 15 12) := tqF_s b 15 (by decide)
  have c0 : qrF b 1 = zor (qrF b 0) (tT b 12 0) := rfl
  have c1 : qrF b 2 = zor (qrF b 1) (tT b 8 1) := rfl
  have c2 : qrF b 3 = zor (qrF b 2) (tT b 4 2) := rfl
  have c3 : qrF b 4 = zor (qrF b 3) (tT b 0 3) := rfl
  have c4 : qrF b 5 = zor (qrF b 4) (tT b 13 4) := rfl
  have c5 : qrF b 6 = zor (qrF b 5) (tT b 9 5) := rfl
  have c6 : qrF b 7 = zor (qrF b 6) (tT b 5 6) := rfl
  have c7 : qrF b 8 = zor (qrF b 7) (tT b 1 7) := rfl
  have c8 : qrF b 9 = zor (qrF b 8) (tT b 14 8) := rfl
  have c9 : qrF b 10 = zor (qrF b 9) (tT b 10 9) := rfl
  have c10 : qrF b 11 = zor (qrF b 10) (tT b 6 10) := rfl
  have c11 : qrF b 12 = zor (qrF b 11) (tT b 2 11) := rfl
  have c12 : qrF b 13 = zor (qrF b 12) (tT b 15 12) := rfl
  have c13 : qrF b 14 = zor (qrF b 13) (tT b 11 13) := rfl
  have c14 : qrF b 15 = zor (qrF b 14) (tT b 7 14) := rfl
  have c15 : qrF b 16 = zor (qrF b 15) (tT b 3 15) := rfl
  have a : tqF b 0 = 0 := rfl
  have c : qrF b 0 = 0 := rfl
  show qrF b 16 = tqF b 16
  rw [c15, c14, c13, c12, c11, c10, c9, c8, c7, c6, c5, c4, c3, c2, c1, c0, c, a15, a14, a13, a12, a11, a10, a9, a8, a7, a6, a5, a4, a3, a2, a1, a0, a]
  unfold zor
  simp only [Int32.ofInt_toInt]
  generalize Int32.ofInt (tT b 0 3) = t0
  generalize Int32.ofInt (tT b 1 7) = t1
  generalize Int32.ofInt (tT b 2 11) = t2
  generalize Int32.ofInt (tT b 3 15) = t3
  generalize Int32.ofInt (tT b 4 2) = t4
  generalize Int32.ofInt (tT b 5 6) = t5
  generalize Int32.ofInt (tT b 6 10) = t6
  generalize Int32.ofInt (tT b 7 14) = t7
  generalize Int32.ofInt (tT b 8 1) = t8
  generalize Int32.ofInt (tT b 9 5) = t9
  generalize Int32.ofInt (tT b 10 9) = t10
  generalize Int32.ofInt (tT b 11 13) = t11
  generalize Int32.ofInt (tT b 12 0) = t12
  generalize Int32.ofInt (tT b 13 4) = t13
  generalize Int32.ofInt (tT b 14 8) = t14
  generalize Int32.ofInt (tT b 15 12) = t15
  congr 1
  ac_rfl
section MQ
variable {L d : Nat} {I : zI} {v : Nat → Int} {hs : Nat → Nat → Int} {hn : Nat} {ct tx : Nat → Int} {tl : Nat}
theorem m_colour {b x y : Int} : Ev L d k_X8_colour [vI b, vI x, vI y] I (some (vI (col b (4 * y + x)))) I := by
  show Go L d k_X8_colour 0 [some (vI b), some (vI x), some (vI y)] [] I _
  refine g_l 1 rfl rfl ?_
  refine g_p 2 rfl rfl ?_
  refine g_p 3 rfl rfl ?_
  refine g_l 4 rfl rfl ?_
  refine g_p 5 rfl rfl ?_
  refine g_l 6 rfl rfl ?_
  refine g_p 7 rfl rfl ?_
  refine g_p 8 rfl rfl ?_
  refine g_p 9 rfl rfl ?_
  refine g_p 10 rfl rfl ?_
  refine g_p 11 rfl rfl ?_
  exact g_ret rfl rfl ⟨rfl, rfl⟩
theorem m_quarter {c : Int} : Ev L (d + 1) k_X8_quarter [vI c] I (some (vI (tq c))) I := by
  have key : ∀ (m y x : Nat), m + 4 * y + x = 16 → x < 4 → y < 4 → Go L (d + 1) k_X8_quarter 11 [some (vI c), some (vI (qrF c (4 * y + x))), some (vI y), some (vI x)] [] I (fun r I' => r = some (vI (tq c)) ∧ I' = I) := by
    intro m
    induction m with
    | zero => intro y x h1 h2 h3; omega
    | succ m ih =>
      intro y x h1 h2 h3
      refine g_l 12 rfl rfl ?_
      refine g_p 13 rfl rfl ?_
      refine g_ic_ge rfl (by omega) (by omega) (fun h => ?_) (fun h => ?_)
      · exact absurd h (by omega)
      · refine g_l 17 rfl rfl ?_
        refine g_l 18 rfl rfl ?_
        refine g_l 19 rfl rfl ?_
        refine g_p 20 rfl rfl ?_
        refine g_l 21 rfl rfl ?_
        refine g_p 22 rfl rfl ?_
        refine g_callE rfl m_colour ?_
        refine g_p 26 rfl rfl ?_
        refine g_p 27 rfl rfl ?_
        refine g_l 28 rfl rfl ?_
        refine g_p 29 rfl rfl ?_
        refine g_l 30 rfl rfl ?_
        refine g_p 31 rfl rfl ?_
        refine g_p 32 rfl rfl ?_
        refine g_p 33 rfl rfl ?_
        refine g_p 34 rfl rfl ?_
        refine g_l 35 rfl rfl ?_
        refine g_l 38 rfl rfl ?_
        refine g_goto rfl ?_
        have e : zor (qrF c (4 * y + x)) (zshl (col c (4 * (3 - (x : Int)) + y)) (2 * (4 * (y : Int) + x))) = qrF c (4 * y + x + 1) := by
          rw [qrF, tT]
          have e1 : 4 * (3 - (x : Int)) + (y : Int) = ((4 * (3 - (4 * y + x) % 4) + (4 * y + x) / 4 : Nat) : Int) := by omega
          have e2 : 2 * (4 * (y : Int) + (x : Int)) = 2 * ((4 * y + x : Nat) : Int) := by omega
          rw [e1, e2]
        show Go L (d + 1) k_X8_quarter 11 [some (vI c), some (vI (zor (qrF c (4 * y + x)) (zshl (col c (4 * (3 - (x : Int)) + y)) (2 * (4 * (y : Int) + x))))), some (vI y), some (vI ((x : Int) + 1))] [] I _
        rw [e]
        by_cases hx : x = 3
        · subst hx
          refine g_l 12 rfl rfl ?_
          refine g_p 13 rfl rfl ?_
          refine g_ic_ge rfl (by omega) (by omega) (fun h4 => ?_) (fun h4 => ?_)
          · by_cases hy : y = 3
            · subst hy
              refine g_l 44 rfl rfl ?_
              refine g_goto rfl ?_
              refine g_l 5 rfl rfl ?_
              refine g_p 6 rfl rfl ?_
              refine g_ic_ge rfl (by omega) (by omega) (fun h5 => ?_) (fun h5 => ?_)
              · refine g_l 48 rfl rfl ?_
                exact g_ret rfl rfl ⟨by rw [← qr_tq], rfl⟩
              · exact absurd h5 (by omega)
            · refine g_l 44 rfl rfl ?_
              refine g_goto rfl ?_
              refine g_l 5 rfl rfl ?_
              refine g_p 6 rfl rfl ?_
              refine g_ic_ge rfl (by omega) (by omega) (fun h5 => ?_) (fun h5 => ?_)
              · exact absurd h5 (by omega)
              · refine g_p 10 rfl rfl ?_
                refine g_l 11 rfl rfl ?_
                exact ih (y + 1) 0 (by omega) (by omega) (by omega)
          · exact absurd h4 (by omega)
        · exact ih y (x + 1) (by omega) (by omega) h3
  show Go L (d + 1) k_X8_quarter 0 [some (vI c), none, none, none] [] I _
  refine g_p 1 rfl rfl ?_
  refine g_l 2 rfl rfl ?_
  refine g_p 3 rfl rfl ?_
  refine g_l 4 rfl rfl ?_
  refine g_l 5 rfl rfl ?_
  refine g_p 6 rfl rfl ?_
  refine g_ic_ge rfl (by omega) (by omega) (fun h => ?_) (fun h => ?_)
  · exact absurd h (by decide)
  · refine g_p 10 rfl rfl ?_
    refine g_l 11 rfl rfl ?_
    exact key 16 0 0 rfl (by decide) (by decide)
theorem m_turned {c : Int} (t : Nat) (ht : t ≤ 3) : Ev L (d + 2) k_X8_turned [vI c, vI t] I (some (vI (tqs c t))) I := by
  have key : ∀ (m i : Nat), i + m = t → Go L (d + 2) k_X8_turned 4 [some (vI c), some (vI t), some (vI (tqs c i)), some (vI i)] [] I (fun r I' => r = some (vI (tqs c t)) ∧ I' = I) := by
    intro m
    induction m with
    | zero =>
      intro i h1
      refine g_l 5 rfl rfl ?_
      refine g_l 6 rfl rfl ?_
      refine g_ic_ge rfl (by omega) (by omega) (fun h => ?_) (fun h => ?_)
      · refine g_l 21 rfl rfl ?_
        have e : i = t := by omega
        subst e
        exact g_ret rfl rfl ⟨rfl, rfl⟩
      · exact absurd h (by omega)
    | succ m ih =>
      intro i h1
      refine g_l 5 rfl rfl ?_
      refine g_l 6 rfl rfl ?_
      refine g_ic_ge rfl (by omega) (by omega) (fun h => ?_) (fun h => ?_)
      · exact absurd h (by omega)
      · refine g_l 10 rfl rfl ?_
        refine g_callE rfl m_quarter ?_
        refine g_l 14 rfl rfl ?_
        refine g_l 17 rfl rfl ?_
        refine g_goto rfl ?_
        exact ih (i + 1) (by omega)
  show Go L (d + 2) k_X8_turned 0 [some (vI c), some (vI t), none, none] [] I _
  refine g_l 1 rfl rfl ?_
  refine g_l 2 rfl rfl ?_
  refine g_p 3 rfl rfl ?_
  refine g_l 4 rfl rfl ?_
  exact key t 0 (by omega)
end MQ
