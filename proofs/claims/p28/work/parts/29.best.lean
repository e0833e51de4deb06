/-! findBest; longs; switches -/
theorem lrem_m (x y : Int64) : x - (x / y) * y = x % y := by
  apply Int64.toInt_inj.mp
  have h1 := Int64.le_toInt (x % y)
  have h2 := Int64.toInt_lt (x % y)
  rw [Int64.toInt_sub, Int64.toInt_mul, Int64.toInt_div, Int.bmod_mul_bmod, Int.sub_bmod_bmod, Int.mul_comm (x.toInt.tdiv y.toInt), ← Int.tmod_def, ← Int64.toInt_mod]
  exact Int.bmod_eq_of_le_mul_two (by omega) (by omega)
theorem zldiv_eq {a b : Int} (ha : 0 ≤ a ∧ a ≤ 9223372036854775807) (hb : 0 < b ∧ b ≤ 9223372036854775807) : zldiv a b = a / b := by
  unfold zldiv
  have e1 : (Int64.ofInt a).toInt = a := n64_eq (by omega)
  have e2 : (Int64.ofInt b).toInt = b := n64_eq (by omega)
  have h2 : 0 ≤ a / b ∧ a / b ≤ a := ⟨Int.ediv_nonneg ha.1 (by omega), Int.ediv_le_self b ha.1⟩
  rw [Int64.toInt_div, e1, e2, Int.tdiv_eq_ediv_of_nonneg ha.1]
  exact Int.bmod_eq_of_le (by omega) (by omega)
theorem zlrem_eq {a b : Int} (ha : 0 ≤ a ∧ a ≤ 9223372036854775807) (hb : 0 < b ∧ b ≤ 9223372036854775807) : zlrem a b = a % b := by
  unfold zlrem
  have e1 : (Int64.ofInt a).toInt = a := n64_eq (by omega)
  have e2 : (Int64.ofInt b).toInt = b := n64_eq (by omega)
  rw [lrem_m, Int64.toInt_mod, e1, e2, Int.tmod_eq_emod_of_nonneg ha.1]
theorem zl2i_eq {a : Int} (ha : rng a) : zl2i a = a := by
  unfold zl2i
  have e1 : (Int64.ofInt a).toInt = a := n64_eq (by omega)
  rw [Int64.toInt_toInt32, e1]
  exact Int.bmod_eq_of_le (by omega) (by omega)
section LG
variable {L d y pc : Nat} {lv : zLv} {st : List zV} {I : zI} {Q : Option zV → zI → Prop}
theorem g_ldiv {len A B K : Nat} {Z : Int} {a b : Int} (n : Nat) (hf : zfn pc (zC y) = some (.ldiv, len, A, B, K, Z)) (ha : 0 ≤ a ∧ a ≤ 9223372036854775807) (hb : 0 < b ∧ b ≤ 9223372036854775807) (k : Go L d y n lv (vL (a / b) :: st) I Q) (hn : pc + len = n := by rfl) : Go L d y pc lv (vL b :: vL a :: st) I Q := by
  refine Go.px hf rfl rfl rfl (fun hL => ?_) hn k
  simp only [zpx]
  rw [n64_eq (by omega), if_neg (by omega), zldiv_eq ha hb]
theorem g_lrem {len A B K : Nat} {Z : Int} {a b : Int} (n : Nat) (hf : zfn pc (zC y) = some (.lrem, len, A, B, K, Z)) (ha : 0 ≤ a ∧ a ≤ 9223372036854775807) (hb : 0 < b ∧ b ≤ 9223372036854775807) (k : Go L d y n lv (vL (a % b) :: st) I Q) (hn : pc + len = n := by rfl) : Go L d y pc lv (vL b :: vL a :: st) I Q := by
  refine Go.px hf rfl rfl rfl (fun hL => ?_) hn k
  simp only [zpx]
  rw [n64_eq (by omega), if_neg (by omega), zlrem_eq ha hb]
theorem g_ld2 {ix len A B K : Nat} {Z : Int} (n : Nat) (hf : zfn pc (zC y) = some (.ldc2_w ix, len, A, B, K, Z)) (k : Go L d y n lv (vL Z :: st) I Q) (hn : pc + len = n := by rfl) : Go L d y pc lv st I Q := Go.px hf rfl rfl rfl (fun _ => rfl) hn k
theorem g_ld {ix len A B K : Nat} {Z : Int} (n : Nat) (hf : zfn pc (zC y) = some (.ldc ix, len, A, B, K, Z)) (k : Go L d y n lv (vI Z :: st) I Q) (hn : pc + len = n := by rfl) : Go L d y pc lv st I Q := Go.px hf rfl rfl rfl (fun _ => rfl) hn k
theorem g_ts {df lo hi : Int} {os : Array Int} {len A B K : Nat} {Z a : Int} (n : Nat) (hf : zfn pc (zC y) = some (.tableswitch df lo hi os, len, A, B, K, Z)) (ha : rng a) (hn : (if a < lo ∨ hi < a then some ((pc : Int) + df).toNat else (os[(a - lo).toNat]?).map (fun o => ((pc : Int) + o).toNat)) = some n) (k : Go L d y n lv st I Q) : Go L d y pc lv (vI a :: st) I Q := by
  refine Go.jx (j := some n) hf rfl rfl rfl (fun _ => ?_) rfl k
  simp only [zpx]
  rw [n32_eq ha]
  by_cases h : a < lo ∨ hi < a
  · rw [if_pos h] at hn ⊢
    rw [Option.some.inj hn]
  · rw [if_neg h] at hn ⊢
    cases h2 : os[(a - lo).toNat]? with
    | none => rw [h2] at hn; cases hn
    | some o =>
      rw [h2] at hn
      have hn : some ((pc : Int) + o).toNat = some n := hn
      show some (some ((pc : Int) + o).toNat, st, mS L I) = _
      rw [Option.some.inj hn]
theorem g_ls {df : Int} {ps : Array (Int × Int)} {len A B K : Nat} {Z a : Int} (n : Nat) (hf : zfn pc (zC y) = some (.lookupswitch df ps, len, A, B, K, Z)) (ha : rng a) (hn : ((pc : Int) + Op.lookupswitch.offset ps.toList df a).toNat = n) (k : Go L d y n lv st I Q) : Go L d y pc lv (vI a :: st) I Q := by
  refine Go.jx (j := some n) hf rfl rfl rfl (fun _ => ?_) rfl k
  simp only [zpx]
  rw [n32_eq ha, hn]
end LG
section BE
variable {L d : Nat} {I : zI}
theorem c_findBest {n : Nat} {w h tu fr : Int} {f : Nat → Int} (hn : 1 ≤ n ∧ n ≤ 8) (h0 : I 37 0 = n) (hf : ∀ k, k < 4 * n → I 39 k = f k) (hD : DfAt I f (4 * n)) (hw : 1 ≤ w ∧ w ≤ 8) (hh : 1 ≤ h ∧ h ≤ 8) (hwh : w * h = n) (htu : tu = 0 ∨ tu = 1) (hfr1 : fr = 0 ∨ fr = 1) (hfr : ∀ k, 0 ≤ f k ∧ f k ≤ 255) : Ct L (d + n + 4) k_X0_findBest [vR 75, vR 37, vI w, vI h, vI tu, vI fr] I (fun r J => r = some (vI (b2i ((fs f n w tu fr n 0 (fun _ => 0) 0 (1000, I 80)).1 < 1000))) ∧ Bst n J (fs f n w tu fr n 0 (fun _ => 0) 0 (1000, I 80)) ∧ ∀ q, q < 75 ∨ 80 < q → J q = I q) := by
  have tail : ∀ (X : zI), (∀ q, q < 75 ∨ 76 < q → X q = I q) → X 75 0 = (if tu = 1 then 4 else 1) → X 75 1 = fr → (∀ j, j < 8 → X 76 j = 0) → Go L (d + n + 4) k_X0_findBest 44 [some (vR 75), some (vR 37), some (vI w), some (vI h), some (vI tu), some (vI fr), some (vI 8)] [] X (fun r J => r = some (vI (b2i ((fs f n w tu fr n 0 (fun _ => 0) 0 (1000, I 80)).1 < 1000))) ∧ Bst n J (fs f n w tu fr n 0 (fun _ => 0) 0 (1000, I 80)) ∧ ∀ q, q < 75 ∨ 80 < q → J q = I q) := by
    intro X x1 x2 x3 x4
    refine g_l 45 rfl rfl ?_
    refine g_fr rfl rfl ⟨⟨by decide, by omega, by decide⟩, by decide⟩ rfl ?_
    refine g_l 49 rfl rfl ?_
    refine g_l 50 rfl rfl ?_
    refine g_callE rfl (c_reset IsR77) ?_ (hr := rcv rfl ⟨by decide, by omega, rfl⟩)
    refine g_l 54 rfl rfl ?_
    refine g_p 57 rfl rfl ?_
    refine g_wi rfl rfl ⟨⟨by decide, by omega, by decide⟩, by decide⟩ ?_
    refine g_l 61 rfl rfl ?_
    refine g_l 62 rfl rfl ?_
    refine g_p 63 rfl rfl ?_
    refine g_p 64 rfl rfl ?_
    have hne : ∀ q, q ≠ 75 → q ≠ 77 → q ≠ 78 → zup2 (fl8 (zup2 (zup2 X 77 0 w) 77 1 h) 78 8) 75 5 1000 q = X q := fun q a b c => by rw [zup2_ne a, fl8_ne c, zup2_ne b, zup2_ne b]
    have e75 : ∀ j, j ≠ 5 → zup2 (fl8 (zup2 (zup2 X 77 0 w) 77 1 h) 78 8) 75 5 1000 75 j = X 75 j := fun j hj => by rw [zup2_an hj, fl8_ne (by omega), zup2_ne (by omega), zup2_ne (by omega)]
    have e770 : zup2 (fl8 (zup2 (zup2 X 77 0 w) 77 1 h) 78 8) 75 5 1000 77 0 = w := by rw [zup2_ne (by omega), fl8_ne (by omega), zup2_an (by omega), zup2_at]
    have e771 : zup2 (fl8 (zup2 (zup2 X 77 0 w) 77 1 h) 78 8) 75 5 1000 77 1 = h := by rw [zup2_ne (by omega), fl8_ne (by omega), zup2_at]
    have hFF : FF (zup2 (fl8 (zup2 (zup2 X 77 0 w) 77 1 h) 78 8) 75 5 1000) n w tu fr f (fun _ => 0) 0 := by
      refine ⟨hn, by rw [hne 37 (by omega) (by omega) (by omega), x1 37 (by omega)]; exact h0, by rw [hne 39 (by omega) (by omega) (by omega), x1 39 (by omega)]; exact hf, fun x y hx hy hxy => by rw [hne (41 + x) (by omega) (by omega) (by omega), x1 (41 + x) (by omega)]; exact hD x y hx hy hxy, ⟨e770, hw⟩, by rw [e771]; exact hh, by rw [e770, e771]; exact hwh, fun j hj => ?_, fun k hk => ?_, by rw [e75 0 (by omega)]; exact x2, by rw [e75 1 (by omega)]; exact x3, hfr1, htu, fun j hj => absurd hj (by omega), by omega, hfr⟩
      · rw [zup2_ne (by omega), fl8_at hj]
        unfold rowc
        rw [if_neg (by omega)]
      · rw [hne 76 (by omega) (by omega) (by omega), x4 k hk]
        exact ⟨Or.inl rfl, ⟨fun z => absurd z (by decide), fun ⟨j, hj, _⟩ => absurd hj (by omega)⟩⟩
    have hB : Bst n (zup2 (fl8 (zup2 (zup2 X 77 0 w) 77 1 h) 78 8) 75 5 1000) (1000, I 80) := by
      refine ⟨by rw [zup2_at], fun j hj => by rw [hne 80 (by omega) (by omega) (by omega), x1 80 (by omega)], show (0 : Int) ≤ 1000 by decide, show (1000 : Int) ≤ 1000 by decide⟩
    refine g_call rfl (c_fillFrom (L := L) (d := d) n 0 _ _ 0 _ (by omega) hFF hB (by omega) (by omega)) (fun r J hJ => ?_)
    obtain ⟨rfl, hJB, hJF⟩ := hJ
    generalize fs f n w tu fr n 0 (fun _ => 0) 0 (1000, I 80) = B at hJB ⊢
    obtain ⟨b1, b2, b3, b4⟩ := id hJB
    have hJq : ∀ q, q < 75 ∨ 80 < q → J q = I q := fun q hq => by rw [hJF.1 q (by omega) (by omega) (by omega), hne q (by omega) (by omega) (by omega), x1 q (by omega)]
    refine g_l 68 rfl rfl ?_
    refine g_fi rfl rfl ⟨⟨by decide, by omega, by decide⟩, by decide⟩ ?_
    refine g_p 74 rfl rfl ?_
    rw [b1]
    refine g_ic_ge rfl (by omega) (by omega) (fun g => ?_) (fun g => ?_)
    · refine g_p 82 rfl rfl ?_
      exact g_retb rfl rfl (Or.inl rfl) ⟨by rw [← b2i_f (by omega)], hJB, hJq⟩
    · refine g_p 78 rfl rfl ?_
      refine g_goto rfl ?_
      exact g_retb rfl rfl (Or.inr rfl) ⟨by rw [← b2i_t (by omega)], hJB, hJq⟩
  have loop : ∀ (m i : Nat) (X : zI), i + m = 8 → (∀ q, q < 75 ∨ 76 < q → X q = I q) → X 75 0 = (if tu = 1 then 4 else 1) → X 75 1 = fr → (∀ j, j < i → X 76 j = 0) → Go L (d + n + 4) k_X0_findBest 23 [some (vR 75), some (vR 37), some (vI w), some (vI h), some (vI tu), some (vI fr), some (vI i)] [] X (fun r J => r = some (vI (b2i ((fs f n w tu fr n 0 (fun _ => 0) 0 (1000, I 80)).1 < 1000))) ∧ Bst n J (fs f n w tu fr n 0 (fun _ => 0) 0 (1000, I 80)) ∧ ∀ q, q < 75 ∨ 80 < q → J q = I q) := by
    intro m
    induction m with
    | zero =>
      intro i X hi x1 x2 x3 x4
      have hi : i = 8 := by omega
      subst hi
      refine g_l 25 rfl rfl ?_
      refine g_p 27 rfl rfl ?_
      refine g_ic_ge rfl (by omega) (by omega) (fun g => ?_) (fun g => ?_)
      · exact tail X x1 x2 x3 x4
      · exact absurd g (by omega)
    | succ m ih =>
      intro i X hi x1 x2 x3 x4
      refine g_l 25 rfl rfl ?_
      refine g_p 27 rfl rfl ?_
      refine g_ic_ge rfl (by omega) (by omega) (fun g => ?_) (fun g => ?_)
      · exact absurd g (by omega)
      · refine g_l 31 rfl rfl ?_
        refine g_fr rfl rfl ⟨⟨by decide, by omega, by decide⟩, by decide⟩ rfl ?_
        refine g_l 36 rfl rfl ?_
        refine g_p 37 rfl rfl ?_
        refine g_bas (c9 := 102) (n := 8) i rfl rfl (Or.inr ⟨rfl, Or.inl rfl⟩) (by omega) rfl (by omega) ?_
        refine g_l 41 rfl rfl ?_
        refine g_goto rfl ?_
        refine ih (i + 1) _ (by omega) (fun q hq => by rw [zup2_ne (by omega)]; exact x1 q hq) (by rw [zup2_ne (by omega)]; exact x2) (by rw [zup2_ne (by omega)]; exact x3) (fun j hj => ?_)
        by_cases hji : j = i
        · rw [hji, zup2_at]
        · rw [zup2_an hji]
          exact x4 j (by omega)
  have mid : ∀ (x : Int), x = (if tu = 1 then 4 else 1) → Go L (d + n + 4) k_X0_findBest 11 [some (vR 75), some (vR 37), some (vI w), some (vI h), some (vI tu), some (vI fr), none] [vI x, vR 75] I (fun r J => r = some (vI (b2i ((fs f n w tu fr n 0 (fun _ => 0) 0 (1000, I 80)).1 < 1000))) ∧ Bst n J (fs f n w tu fr n 0 (fun _ => 0) 0 (1000, I 80)) ∧ ∀ q, q < 75 ∨ 80 < q → J q = I q) := by
    intro x hx
    refine g_wi rfl rfl ⟨⟨by decide, by omega, by decide⟩, by decide⟩ ?_
    refine g_l 15 rfl rfl ?_
    refine g_l 17 rfl rfl ?_
    refine g_wb rfl rfl ⟨⟨by decide, by omega, by decide⟩, by decide⟩ hfr1 ?_
    refine g_p 21 rfl rfl ?_
    refine g_l 23 rfl rfl ?_
    exact loop 8 0 _ (by omega) (fun q hq => by rw [zup2_ne (by omega), zup2_ne (by omega)]) (by rw [zup2_an (by omega), zup2_at]; exact hx) (by rw [zup2_at]) (fun j hj => absurd hj (by omega))
  show Go L (d + n + 4) k_X0_findBest 0 [some (vR 75), some (vR 37), some (vI w), some (vI h), some (vI tu), some (vI fr), none] [] I _
  refine g_l 1 rfl rfl ?_
  refine g_l 3 rfl rfl ?_
  refine g_if_eq rfl (by omega) (fun g => ?_) (fun g => ?_)
  · refine g_p 11 rfl rfl ?_
    exact mid 1 (by rw [if_neg (by omega)])
  · refine g_p 7 rfl rfl ?_
    refine g_goto rfl ?_
    exact mid 4 (by rw [if_pos (by omega)])
end BE
