/-! Maker -/
def nxt (x : Int) : Int := (1103515245 * x + 12345) % 2147483648
theorem nxt_rng (x : Int) : 0 ≤ nxt x ∧ nxt x < 2147483648 := by
  unfold nxt
  omega
abbrev inn (C R k : Nat) : Prop := (0 < k % C ∧ k % C + 1 < C) ∧ 0 < k / C ∧ k / C + 1 < R
def pX (C R : Nat) (s : Int) : Nat → Int
  | 0 => s
  | k + 1 => if inn C R k then nxt (pX C R s k) else pX C R s k
def pC (C R : Nat) (s : Int) (k : Nat) : Int := if inn C R k then nxt (pX C R s k) / 65536 % 3 + 1 else 0
theorem pX_rng {C R : Nat} {s : Int} (hs : 0 ≤ s ∧ s < 2147483648) : ∀ k, 0 ≤ pX C R s k ∧ pX C R s k < 2147483648
  | 0 => hs
  | k + 1 => by
    unfold pX
    split
    · exact nxt_rng _
    · exact pX_rng hs k
theorem zup_pt {f g : Nat → Int} {k N : Nat} {x y : Int} (h : ∀ j, j < N → f j = g j) (e : x = y) : ∀ j, j < N → zup f k x j = zup g k y j := fun j hj => by
  unfold zup
  split
  · exact e
  · exact h j hj
theorem zup2_fn {I : zI} {a k : Nat} {x : Int} : zup2 I a k x a = zup (I a) k x := by
  unfold zup2
  rw [if_pos rfl]
def ctF (g : Nat → Int) (C lf tp : Nat) : Nat → Int
  | 0 => 0
  | i + 1 => zor (ctF g C lf tp i) (zshl (g (C * (tp + i / 4) + lf + i % 4)) (2 * i))
def mxF : Nat → Int → (Nat → Int) → Int × (Nat → Int)
  | 0, x, c => (x, c)
  | i + 1, x, c => mxF i (nxt x) (zup (zup c (i + 1) (c (nxt x / 65536 % ((i : Int) + 2)).toNat)) (nxt x / 65536 % ((i : Int) + 2)).toNat (c (i + 1)))
def trF : Nat → Nat → Int → (Nat → Int) → Nat → Int
  | 0, _, _, c => c
  | m + 1, p, x, c => trF m (p + 1) (nxt x) (zup c p (tqs (c p) (nxt x / 65536 % 4).toNat))
def mkC (v : Nat → Int) (s : Int) (w h : Nat) (tu : Int) : Nat → Int :=
  if tu = 1 then trF (w * h) 0 (mxF (w * h - 1) (pX (3 * w + 1) (3 * h + 1) s ((3 * w + 1) * (3 * h + 1))) (fun p => if p < w * h then ctF (pC (3 * w + 1) (3 * h + 1) s) (3 * w + 1) (3 * (p % w)) (3 * (p / w)) 16 else v (1 + p))).1 (mxF (w * h - 1) (pX (3 * w + 1) (3 * h + 1) s ((3 * w + 1) * (3 * h + 1))) (fun p => if p < w * h then ctF (pC (3 * w + 1) (3 * h + 1) s) (3 * w + 1) (3 * (p % w)) (3 * (p / w)) 16 else v (1 + p))).2
  else (mxF (w * h - 1) (pX (3 * w + 1) (3 * h + 1) s ((3 * w + 1) * (3 * h + 1))) (fun p => if p < w * h then ctF (pC (3 * w + 1) (3 * h + 1) s) (3 * w + 1) (3 * (p % w)) (3 * (p / w)) 16 else v (1 + p))).2
def vMk (v : Nat → Int) (s w h tu : Int) : Nat → Int := fun i => if i = 0 then w * h else if i < 9 then mkC v s w.toNat h.toNat tu (i - 1) else if i = 9 then w else if i = 10 then h else if i < 19 then -1 else v i
abbrev mkOK (s w h tu : Int) : Prop := (0 ≤ s ∧ s ≤ 999999) ∧ tsz w h ∧ (tu = 0 ∨ tu = 1)
def sMk (v : Nat → Int) (s w h tu : Int) : Int × (Nat → Int) := if mkOK s w h tu then (w * h, vMk v s w h tu) else (-2, v)
theorem mk_fits : ∀ w, w < 9 → ∀ h, h < 9 → w * h ≤ 8 → ∀ p, p < 8 → p < w * h → ((3 * w + 1) * (3 * (p / w) + 3) + 3 * (p % w) + 3 < 100) := by decide +kernel
theorem mk_fit2 : ∀ w, w < 9 → ∀ h, h < 9 → w * h ≤ 8 → 1 ≤ w → 1 ≤ h → (3 * w + 1) * (3 * h + 1) ≤ 100 := by decide +kernel
section MK
variable {L d : Nat} {I : zI}
theorem c_draw (hx : 0 ≤ I 81 0 ∧ I 81 0 < 2147483648) : Ev L d k_X2_drawNumber [vR 81] I (some (vI (nxt (I 81 0) / 65536))) (zup2 I 81 0 (nxt (I 81 0))) := by
  show Go L d k_X2_drawNumber 0 [some (vR 81)] [] I _
  have hr := nxt_rng (I 81 0)
  refine g_l 1 rfl rfl ?_
  refine g_ld2 4 rfl ?_
  refine g_l 5 rfl rfl ?_
  refine g_fl rfl rfl ⟨⟨by decide, by omega, by decide⟩, by decide⟩ ?_
  refine g_p 9 rfl rfl ?_
  refine g_ld2 12 rfl ?_
  refine g_p 13 rfl rfl ?_
  refine g_ld2 16 rfl ?_
  refine g_lrem 17 rfl (by omega) (by omega) ?_
  refine g_wl rfl rfl ⟨⟨by decide, by omega, by decide⟩, by decide⟩ ?_
  show Go L d k_X2_drawNumber 20 [some (vR 81)] [] (zup2 I 81 0 (nxt (I 81 0))) _
  refine g_l 21 rfl rfl ?_
  refine g_fl rfl rfl ⟨⟨by decide, by omega, by decide⟩, by decide⟩ ?_
  rw [zup2_at]
  refine g_ld2 27 rfl ?_
  refine g_ldiv 28 rfl (by omega) (by omega) ?_
  refine g_p 29 rfl rfl ?_
  rw [zl2i_eq (by omega)]
  exact g_ret rfl rfl ⟨rfl, rfl⟩
/-- k cells painted -/
def Pt (C R : Nat) (s : Int) (I : zI) (k : Nat) (J : zI) : Prop := J 81 0 = pX C R s k ∧ (∀ j, j < k → J 82 j = pC C R s j) ∧ ∀ q, q ≠ 81 → q ≠ 82 → J q = I q
theorem c_paint {C R : Nat} {s : Int} (hC : 4 ≤ C) (hR : 4 ≤ R) (hCR : C * R ≤ 100) (hs : 0 ≤ s ∧ s < 2147483648) (h0 : I 81 0 = s) : Ct L (d + 1) k_X2_paintPoints [vR 81, vI C, vI R] I (fun r J => r = none ∧ Pt C R s I (C * R) J) := by
  have hC1 : C ≤ 100 := Nat.le_trans (Nat.le_mul_of_pos_right C (by omega)) hCR
  have hR1 : R ≤ 100 := Nat.le_trans (Nat.le_mul_of_pos_left R (by omega)) hCR
  have inner : ∀ (y : Nat), y < R → (∀ (J : zI) (o4 o5 : Option zV), Pt C R s I (C * (y + 1)) J → Go L (d + 1) k_X2_paintPoints 2 [some (vR 81), some (vI C), some (vI R), some (vI ((y + 1 : Nat) : Int)), o4, o5] [] J (fun r J => r = none ∧ Pt C R s I (C * R) J)) → ∀ (m x : Nat) (J : zI) (o5 : Option zV), x + m = C → Pt C R s I (C * y + x) J → Go L (d + 1) k_X2_paintPoints 10 [some (vR 81), some (vI C), some (vI R), some (vI y), some (vI x), o5] [] J (fun r J => r = none ∧ Pt C R s I (C * R) J) := by
    intro y hy cont m
    induction m with
    | zero =>
      intro x J o5 hx hP
      have hx : x = C := by omega
      subst hx
      refine g_l 12 rfl rfl ?_
      refine g_l 13 rfl rfl ?_
      refine g_ic_ge rfl (by omega) (by omega) (fun g => ?_) (fun g => ?_)
      · refine g_l 84 rfl rfl ?_
        refine g_goto rfl ?_
        refine cont J _ _ ?_
        rw [Nat.mul_add, Nat.mul_one]
        exact hP
      · exact absurd g (by omega)
    | succ m ih =>
      intro x J o5 hx hP
      have k1 : (C * y + x) % C = x := by rw [Nat.mul_add_mod]; exact Nat.mod_eq_of_lt (by omega)
      have k2 : (C * y + x) / C = y := by rw [Nat.mul_add_div (by omega), Nat.div_eq_of_lt (by omega)]; rfl
      have kb : C * (y + 1) ≤ C * R := Nat.mul_le_mul_left C (by omega)
      rw [Nat.mul_add, Nat.mul_one] at kb
      have hix : (C : Int) * (y : Int) + (x : Int) = ((C * y + x : Nat) : Int) := by push_cast; rfl
      have hiy : 0 ≤ (C : Int) * (y : Int) ∧ (C : Int) * (y : Int) ≤ 100 := by
        have : (C : Int) * (y : Int) = ((C * y : Nat) : Int) := by push_cast; rfl
        omega
      obtain ⟨p1, p2, p3⟩ := hP
      have hpr := pX_rng (C := C) (R := R) hs (C * y + x)
      have merge : ∀ (b : Int) (o5 : Option zV), (b = 0 ∧ inn C R (C * y + x) ∨ b = 1 ∧ ¬ inn C R (C * y + x)) → Go L (d + 1) k_X2_paintPoints 45 [some (vR 81), some (vI C), some (vI R), some (vI y), some (vI x), o5] [vI b] J (fun r J => r = none ∧ Pt C R s I (C * R) J) := by
        intro b o5 hb
        refine g_l 47 rfl rfl ?_
        refine g_l 48 rfl rfl ?_
        refine g_fr rfl rfl ⟨⟨by decide, by omega, by decide⟩, by decide⟩ rfl ?_
        refine g_l 52 rfl rfl ?_
        refine g_l 53 rfl rfl ?_
        refine g_p 54 rfl rfl ?_
        refine g_l 56 rfl rfl ?_
        refine g_p 57 rfl rfl ?_
        refine g_l 59 rfl rfl ?_
        rw [hix]
        refine g_if_eq rfl (by omega) (fun g => ?_) (fun g => ?_)
        · have hi : inn C R (C * y + x) := by
            rcases hb with hb | hb
            · exact hb.2
            · omega
          have hnr := nxt_rng (pX C R s (C * y + x))
          refine g_l 67 rfl rfl ?_
          refine g_callE rfl (c_draw (by omega)) ?_
          rw [p1]
          refine g_p 71 rfl rfl ?_
          refine g_rem 72 rfl (by omega) (by omega) ?_
          refine g_p 73 rfl rfl ?_
          refine g_p 74 rfl rfl ?_
          refine g_ias (C * y + x) rfl rfl (by omega) rfl (by omega) ?_
          refine g_l 78 rfl rfl ?_
          refine g_goto rfl ?_
          refine ih (x + 1) _ _ (by omega) ⟨?_, fun j hj => ?_, fun q q1 q2 => ?_⟩
          · rw [zup2_ne (by omega), zup2_at, ← Nat.add_assoc, pX, if_pos hi]
          · by_cases hj2 : j = C * y + x
            · rw [hj2, zup2_at, pC, if_pos hi]
            · rw [zup2_an hj2, zup2_ne (by omega)]
              exact p2 j (by omega)
          · rw [zup2_ne q2, zup2_ne q1]
            exact p3 q q1 q2
        · have hi : ¬ inn C R (C * y + x) := by
            rcases hb with hb | hb
            · omega
            · exact hb.2
          refine g_p 63 rfl rfl ?_
          refine g_goto rfl ?_
          refine g_ias (C * y + x) rfl rfl (by omega) rfl (by omega) ?_
          refine g_l 78 rfl rfl ?_
          refine g_goto rfl ?_
          refine ih (x + 1) _ _ (by omega) ⟨?_, fun j hj => ?_, fun q q1 q2 => ?_⟩
          · rw [zup2_ne (by omega), ← Nat.add_assoc, pX, if_neg hi]
            exact p1
          · by_cases hj2 : j = C * y + x
            · rw [hj2, zup2_at, pC, if_neg hi]
            · rw [zup2_an hj2]
              exact p2 j (by omega)
          · rw [zup2_ne q2]
            exact p3 q q1 q2
      have rim : ∀ (o5 : Option zV), ¬ inn C R (C * y + x) → Go L (d + 1) k_X2_paintPoints 40 [some (vR 81), some (vI C), some (vI R), some (vI y), some (vI x), o5] [] J (fun r J => r = none ∧ Pt C R s I (C * R) J) := fun o5 hno => by
        refine g_p 41 rfl rfl ?_
        refine g_goto rfl ?_
        exact merge 1 _ (Or.inr ⟨rfl, hno⟩)
      unfold inn at merge rim
      rw [k1, k2] at merge rim
      refine g_l 12 rfl rfl ?_
      refine g_l 13 rfl rfl ?_
      refine g_ic_ge rfl (by omega) (by omega) (fun g => ?_) (fun g => ?_)
      · exact absurd g (by omega)
      · refine g_l 18 rfl rfl ?_
        refine g_if_eq rfl (by omega) (fun g1 => ?_) (fun g1 => ?_)
        · exact rim _ (by omega)
        · refine g_l 22 rfl rfl ?_
          refine g_if_eq rfl (by omega) (fun g2 => ?_) (fun g2 => ?_)
          · exact rim _ (by omega)
          · refine g_l 27 rfl rfl ?_
            refine g_l 28 rfl rfl ?_
            refine g_p 29 rfl rfl ?_
            refine g_p 30 rfl rfl ?_
            refine g_ic_eq rfl (by omega) (by omega) (fun g3 => ?_) (fun g3 => ?_)
            · exact rim _ (by omega)
            · refine g_l 34 rfl rfl ?_
              refine g_l 35 rfl rfl ?_
              refine g_p 36 rfl rfl ?_
              refine g_p 37 rfl rfl ?_
              refine g_ic_ne rfl (by omega) (by omega) (fun g4 => ?_) (fun g4 => ?_)
              · refine g_p 45 rfl rfl ?_
                exact merge 0 _ (Or.inl ⟨rfl, by omega⟩)
              · exact rim _ (by omega)
  have outer : ∀ (m y : Nat) (J : zI) (o4 o5 : Option zV), y + m = R → Pt C R s I (C * y) J → Go L (d + 1) k_X2_paintPoints 2 [some (vR 81), some (vI C), some (vI R), some (vI y), o4, o5] [] J (fun r J => r = none ∧ Pt C R s I (C * R) J) := by
    intro m
    induction m with
    | zero =>
      intro y J o4 o5 hy hP
      have hy : y = R := by omega
      subst hy
      refine g_l 3 rfl rfl ?_
      refine g_l 4 rfl rfl ?_
      refine g_ic_ge rfl (by omega) (by omega) (fun g => ?_) (fun g => ?_)
      · exact g_ret rfl rfl ⟨rfl, hP⟩
      · exact absurd g (by omega)
    | succ m ih =>
      intro y J o4 o5 hy hP
      refine g_l 3 rfl rfl ?_
      refine g_l 4 rfl rfl ?_
      refine g_ic_ge rfl (by omega) (by omega) (fun g => ?_) (fun g => ?_)
      · exact absurd g (by omega)
      · refine g_p 8 rfl rfl ?_
        refine g_l 10 rfl rfl ?_
        exact inner y (by omega) (fun J2 o4 o5 h2 => ih (y + 1) J2 o4 o5 (by omega) h2) C 0 J _ (by omega) hP
  show Go L (d + 1) k_X2_paintPoints 0 [some (vR 81), some (vI C), some (vI R), none, none, none] [] I _
  refine g_p 1 rfl rfl ?_
  refine g_l 2 rfl rfl ?_
  exact outer R 0 I none none (by omega) ⟨h0, fun j hj => absurd hj (by omega), fun _ _ _ => rfl⟩
theorem c_cutPiece {C lf tp : Nat} {g : Nat → Int} (hfit : C * (tp + 3) + lf + 3 < 100) (hg : ∀ j, j < 100 → j ≤ C * (tp + 3) + lf + 3 → I 82 j = g j) : Ev L d k_X2_cutPiece [vR 81, vI lf, vI tp, vI C] I (some (vI (ctF g C lf tp 16))) I := by
  have key : ∀ (m i : Nat), i + m = 16 → Go L d k_X2_cutPiece 6 [some (vR 81), some (vI lf), some (vI tp), some (vI C), some (vI (ctF g C lf tp i)), some (vI i)] [] I (fun r J => r = some (vI (ctF g C lf tp 16)) ∧ J = I) := by
    intro m
    induction m with
    | zero =>
      intro i hi
      have hi : i = 16 := by omega
      subst hi
      refine g_l 8 rfl rfl ?_
      refine g_p 10 rfl rfl ?_
      refine g_ic_ge rfl (by omega) (by omega) (fun h => ?_) (fun h => ?_)
      · refine g_l 51 rfl rfl ?_
        exact g_ret rfl rfl ⟨rfl, rfl⟩
      · exact absurd h (by omega)
    | succ m ih =>
      intro i hi
      have hle : C * (tp + i / 4) ≤ C * (tp + 3) := Nat.mul_le_mul_left C (by omega)
      refine g_l 8 rfl rfl ?_
      refine g_p 10 rfl rfl ?_
      refine g_ic_ge rfl (by omega) (by omega) (fun h => ?_) (fun h => ?_)
      · exact absurd h (by omega)
      · refine g_l 15 rfl rfl ?_
        refine g_l 16 rfl rfl ?_
        refine g_fr rfl rfl ⟨⟨by decide, by omega, by decide⟩, by decide⟩ rfl ?_
        refine g_l 20 rfl rfl ?_
        refine g_l 21 rfl rfl ?_
        refine g_l 23 rfl rfl ?_
        refine g_p 24 rfl rfl ?_
        refine g_div 25 rfl (by omega) (by omega) ?_
        refine g_p 26 rfl rfl ?_
        refine g_p 27 rfl rfl ?_
        refine g_l 28 rfl rfl ?_
        refine g_p 29 rfl rfl ?_
        refine g_l 31 rfl rfl ?_
        refine g_p 32 rfl rfl ?_
        refine g_rem 33 rfl (by omega) (by omega) ?_
        refine g_p 34 rfl rfl ?_
        have e : (C : Int) * ((tp : Int) + (i : Int) / 4) + (lf : Int) + (i : Int) % 4 = ((C * (tp + i / 4) + lf + i % 4 : Nat) : Int) := by push_cast; rfl
        refine g_ia (C * (tp + i / 4) + lf + i % 4) rfl rfl e (by omega) ?_
        rw [hg _ (by omega) (by omega)]
        refine g_p 36 rfl rfl ?_
        refine g_l 38 rfl rfl ?_
        refine g_p 39 rfl rfl ?_
        refine g_p 40 rfl rfl ?_
        refine g_p 41 rfl rfl ?_
        refine g_l 43 rfl rfl ?_
        refine g_l 46 rfl rfl ?_
        refine g_goto rfl ?_
        exact ih (i + 1) (by omega)
  show Go L d k_X2_cutPiece 0 [some (vR 81), some (vI lf), some (vI tp), some (vI C), none, none] [] I _
  refine g_p 1 rfl rfl ?_
  refine g_l 3 rfl rfl ?_
  refine g_p 4 rfl rfl ?_
  refine g_l 6 rfl rfl ?_
  exact key 16 0 rfl
def Mx (I : zI) (x : Int) (c : Nat → Int) (J : zI) : Prop := J 81 0 = x ∧ (∀ j, j < 8 → J 4 j = c j) ∧ ∀ q, q ≠ 81 → q ≠ 4 → J q = I q
theorem c_mix {n : Nat} {x : Int} {c : Nat → Int} (hn : 1 ≤ n ∧ n ≤ 8) (h3 : I 3 0 = n) (hx : 0 ≤ x ∧ x < 2147483648) (hM : Mx I x c I) : Ct L (d + 1) k_X2_mixPieces [vR 81, vR 3] I (fun r J => r = none ∧ (0 ≤ (mxF (n - 1) x c).1 ∧ (mxF (n - 1) x c).1 < 2147483648) ∧ Mx I (mxF (n - 1) x c).1 (mxF (n - 1) x c).2 J) := by
  have key : ∀ (i : Nat) (x : Int) (c : Nat → Int) (J : zI) (o3 o4 : Option zV), i < 8 → (0 ≤ x ∧ x < 2147483648) → Mx I x c J → Go L (d + 1) k_X2_mixPieces 7 [some (vR 81), some (vR 3), some (vI i), o3, o4] [] J (fun r J => r = none ∧ (0 ≤ (mxF i x c).1 ∧ (mxF i x c).1 < 2147483648) ∧ Mx I (mxF i x c).1 (mxF i x c).2 J) := by
    intro i
    induction i with
    | zero =>
      intro x c J o3 o4 hi hx hM
      refine g_l 8 rfl rfl ?_
      refine g_p 9 rfl rfl ?_
      refine g_ic_lt rfl (by omega) (by omega) (fun g => ?_) (fun g => ?_)
      · exact g_ret rfl rfl ⟨rfl, hx, hM⟩
      · exact absurd g (by omega)
    | succ i ih =>
      intro x c J o3 o4 hi hx hM
      have hnr := nxt_rng x
      obtain ⟨m1, m2, m3⟩ := id hM
      generalize ho : (nxt x / 65536 % ((i : Int) + 2)).toNat = o
      have ho2 : nxt x / 65536 % ((i : Int) + 2) = (o : Int) := by
        have := Int.emod_nonneg (nxt x / 65536) (show (i : Int) + 2 ≠ 0 by omega)
        omega
      have ho3 : o < 8 := by
        have := Int.emod_lt_of_pos (nxt x / 65536) (show 0 < (i : Int) + 2 by omega)
        omega
      refine g_l 8 rfl rfl ?_
      refine g_p 9 rfl rfl ?_
      refine g_ic_lt rfl (by omega) (by omega) (fun g => ?_) (fun g => ?_)
      · exact absurd g (by omega)
      · refine g_l 13 rfl rfl ?_
        refine g_callE rfl (c_draw (by omega)) ?_
        rw [m1]
        refine g_l 17 rfl rfl ?_
        refine g_p 18 rfl rfl ?_
        refine g_p 19 rfl rfl ?_
        refine g_rem 20 rfl (by omega) (by omega) ?_
        have e1 : nxt x / 65536 % (((i + 1 : Nat) : Int) + 1) = (o : Int) := by
          rw [← ho2]
          congr 1
        rw [e1]
        refine g_l 21 rfl rfl ?_
        refine g_l 22 rfl rfl ?_
        refine g_fr rfl rfl ⟨⟨by decide, by omega, by decide⟩, by decide⟩ rfl ?_
        refine g_l 26 rfl rfl ?_
        refine g_ia (i + 1) rfl rfl rfl (by omega) ?_
        refine g_l 29 rfl rfl ?_
        refine g_l 30 rfl rfl ?_
        refine g_fr rfl rfl ⟨⟨by decide, by omega, by decide⟩, by decide⟩ rfl ?_
        refine g_l 34 rfl rfl ?_
        refine g_l 35 rfl rfl ?_
        refine g_fr rfl rfl ⟨⟨by decide, by omega, by decide⟩, by decide⟩ rfl ?_
        refine g_l 39 rfl rfl ?_
        refine g_ia o rfl rfl rfl (by omega) ?_
        refine g_ias (i + 1) rfl rfl (by omega) rfl (by omega) ?_
        refine g_l 42 rfl rfl ?_
        refine g_fr rfl rfl ⟨⟨by decide, by omega, by decide⟩, by decide⟩ rfl ?_
        refine g_l 46 rfl rfl ?_
        refine g_l 48 rfl rfl ?_
        refine g_ias o rfl rfl (by omega) rfl (by omega) ?_
        refine g_l 52 rfl rfl ?_
        refine g_goto rfl ?_
        have h := ih (nxt x) (zup (zup c (i + 1) (c o)) o (c (i + 1))) (zup2 (zup2 (zup2 J 81 0 (nxt x)) 4 (i + 1) (zup2 J 81 0 (nxt x) 4 o)) 4 o (zup2 J 81 0 (nxt x) 4 (i + 1))) (some (vI (o : Int))) (some (vI (zup2 J 81 0 (nxt x) 4 (i + 1)))) (by omega) (by omega) ⟨?_, ?_, fun q q1 q2 => ?_⟩
        · rw [mxF, ho]
          have e2 : ((i + 1 : Nat) : Int) + -1 = (i : Int) := by omega
          rw [e2]
          exact h
        · rw [zup2_ne (by omega), zup2_ne (by omega), zup2_at]
        · rw [zup2_fn, zup2_fn]
          refine zup_pt (zup_pt (fun j hj => ?_) ?_) ?_
          · rw [zup2_ne (by omega)]
            exact m2 j hj
          · rw [zup2_ne (by omega)]
            exact m2 o ho3
          · rw [zup2_ne (by omega)]
            exact m2 (i + 1) (by omega)
        · rw [zup2_ne q2, zup2_ne q2, zup2_ne q1]
          exact m3 q q1 q2
  show Go L (d + 1) k_X2_mixPieces 0 [some (vR 81), some (vR 3), none, none, none] [] I _
  refine g_l 1 rfl rfl ?_
  refine g_fi rfl rfl ⟨⟨by decide, by omega, by decide⟩, by decide⟩ ?_
  refine g_p 5 rfl rfl ?_
  refine g_p 6 rfl rfl ?_
  refine g_l 7 rfl rfl ?_
  have e : I 3 0 - 1 = ((n - 1 : Nat) : Int) := by omega
  rw [e]
  exact key (n - 1) x c I none none (by omega) hx hM
theorem c_turnP {n : Nat} {x : Int} {c : Nat → Int} (hn : n ≤ 8) (h3 : I 3 0 = n) (hx : 0 ≤ x ∧ x < 2147483648) (hM : Mx I x c I) : Ct L (d + 3) k_X2_turnPieces [vR 81, vR 3] I (fun r J => r = none ∧ (∀ j, j < 8 → J 4 j = trF n 0 x c j) ∧ ∀ q, q ≠ 81 → q ≠ 4 → J q = I q) := by
  have key : ∀ (m p : Nat) (x : Int) (c : Nat → Int) (J : zI), p + m = n → (0 ≤ x ∧ x < 2147483648) → Mx I x c J → Go L (d + 3) k_X2_turnPieces 2 [some (vR 81), some (vR 3), some (vI p)] [] J (fun r J => r = none ∧ (∀ j, j < 8 → J 4 j = trF m p x c j) ∧ ∀ q, q ≠ 81 → q ≠ 4 → J q = I q) := by
    intro m
    induction m with
    | zero =>
      intro p x c J hp hx hM
      obtain ⟨m1, m2, m3⟩ := id hM
      have h3J : J 3 0 = n := by rw [m3 3 (by omega) (by omega)]; exact h3
      refine g_l 3 rfl rfl ?_
      refine g_l 4 rfl rfl ?_
      refine g_fi rfl rfl ⟨⟨by decide, by omega, by decide⟩, by decide⟩ ?_
      rw [h3J]
      refine g_ic_ge rfl (by omega) (by omega) (fun g => ?_) (fun g => ?_)
      · exact g_ret rfl rfl ⟨rfl, m2, m3⟩
      · exact absurd g (by omega)
    | succ m ih =>
      intro p x c J hp hx hM
      obtain ⟨m1, m2, m3⟩ := id hM
      have h3J : J 3 0 = n := by rw [m3 3 (by omega) (by omega)]; exact h3
      have hnr := nxt_rng x
      refine g_l 3 rfl rfl ?_
      refine g_l 4 rfl rfl ?_
      refine g_fi rfl rfl ⟨⟨by decide, by omega, by decide⟩, by decide⟩ ?_
      rw [h3J]
      refine g_ic_ge rfl (by omega) (by omega) (fun g => ?_) (fun g => ?_)
      · exact absurd g (by omega)
      · refine g_l 11 rfl rfl ?_
        refine g_fr rfl rfl ⟨⟨by decide, by omega, by decide⟩, by decide⟩ rfl ?_
        refine g_l 15 rfl rfl ?_
        refine g_l 16 rfl rfl ?_
        refine g_fr rfl rfl ⟨⟨by decide, by omega, by decide⟩, by decide⟩ rfl ?_
        refine g_l 20 rfl rfl ?_
        refine g_ia p rfl rfl rfl (by omega) ?_
        refine g_l 22 rfl rfl ?_
        refine g_callE rfl (c_draw (by omega)) ?_
        rw [m1]
        refine g_p 26 rfl rfl ?_
        refine g_rem 27 rfl (by omega) (by omega) ?_
        have e1 : nxt x / 65536 % 4 = ((nxt x / 65536 % 4).toNat : Int) := by omega
        rw [e1, m2 p (by omega)]
        refine g_callE rfl (c_turnedCells (nxt x / 65536 % 4).toNat (by omega)) ?_
        refine g_ias p rfl rfl (by omega) rfl (by omega) ?_
        refine g_l 34 rfl rfl ?_
        refine g_goto rfl ?_
        rw [trF]
        refine ih (p + 1) (nxt x) _ _ (by omega) (by omega) ⟨?_, ?_, fun q q1 q2 => ?_⟩
        · rw [zup2_ne (by omega), zup2_at]
        · rw [zup2_fn]
          refine zup_pt (fun j hj => ?_) rfl
          rw [zup2_ne (by omega)]
          exact m2 j hj
        · rw [zup2_ne q2, zup2_ne q1]
          exact m3 q q1 q2
  show Go L (d + 3) k_X2_turnPieces 0 [some (vR 81), some (vR 3), none] [] I _
  refine g_p 1 rfl rfl ?_
  refine g_l 2 rfl rfl ?_
  exact key n 0 x c I (by omega) hx hM
end MK
