/-! EdgeJoinModel: its state -/
def AL (I : zI) (v : Nat → Int) : Prop := ∀ k, k < 19 → I 138 k = v k
def MR (I : zI) (hs : Nat → Nat → Int) (hn : Nat) (ct tx : Nat → Int) (tl : Nat) : Prop := (hn ≤ 6 ∧ (∀ k, k < hn → OKv (hs k)) ∧ I 137 2 = hn ∧ ∀ i, i < hn → ∀ k, k < 19 → I 139 (19 * i + k) = hs i k) ∧ (∀ j, j < 3 → I 140 j = ct j) ∧ (I 137 12 = tl ∧ tl ≤ 150 ∧ ∀ j, j < tl → I 147 j = tx j ∧ 0 ≤ tx j ∧ tx j ≤ 127)
def MI (I : zI) (v : Nat → Int) (hs : Nat → Nat → Int) (hn : Nat) (ct tx : Nat → Int) (tl : Nat) : Prop := AL I v ∧ OKv v ∧ MR I hs hn ct tx tl
def FrM (I J : zI) : Prop := ∀ q, q < 137 → J q = I q
theorem FrM.rf {I : zI} : FrM I I := fun _ _ => rfl
theorem FrM.tr {I J K : zI} (h1 : FrM I J) (h2 : FrM J K) : FrM I K := fun q hq => (h2 q hq).trans (h1 q hq)
theorem MR.fr {I J : zI} {hs : Nat → Nat → Int} {hn : Nat} {ct tx : Nat → Int} {tl : Nat} (h : MR I hs hn ct tx tl) (h2 : J 137 2 = I 137 2) (h12 : J 137 12 = I 137 12) (hj : ∀ q, (q = 139 ∨ q = 140 ∨ q = 147) → J q = I q) : MR J hs hn ct tx tl := by
  obtain ⟨⟨a1, a2, a3, a4⟩, b, c1, c2, c3⟩ := h
  refine ⟨⟨a1, a2, by rw [h2]; exact a3, fun i hi k hk => by rw [hj 139 (by omega)]; exact a4 i hi k hk⟩, fun j hj2 => by rw [hj 140 (by omega)]; exact b j hj2, by rw [h12]; exact c1, c2, fun j hj2 => by rw [hj 147 (by omega)]; exact c3 j hj2⟩
/-- what the asking methods may change -/
def FrQ (I J : zI) : Prop := (∀ q, (q < 137 ∨ (138 ≤ q ∧ q ≤ 140) ∨ q = 147) → J q = I q) ∧ J 137 2 = I 137 2 ∧ J 137 12 = I 137 12
theorem FrQ.rf {I : zI} : FrQ I I := ⟨fun _ _ => rfl, rfl, rfl⟩
theorem FrQ.tr {I J K : zI} (h1 : FrQ I J) (h2 : FrQ J K) : FrQ I K := ⟨fun q hq => (h2.1 q hq).trans (h1.1 q hq), h2.2.1.trans h1.2.1, h2.2.2.trans h1.2.2⟩
theorem FrQ.m {I J : zI} (h : FrQ I J) : FrM I J := fun q hq => h.1 q (Or.inl hq)
theorem MR.q {I J : zI} {hs : Nat → Nat → Int} {hn : Nat} {ct tx : Nat → Int} {tl : Nat} (h : MR I hs hn ct tx tl) (hj : FrQ I J) : MR J hs hn ct tx tl := h.fr hj.2.1 hj.2.2 (fun q hq => hj.1 q (by omega))
theorem AL.q {I J : zI} {v : Nat → Int} (h : AL I v) (hj : FrQ I J) : AL J v := fun k hk => by rw [hj.1 138 (by omega)]; exact h k hk
theorem MI.q {I J : zI} {v : Nat → Int} {hs : Nat → Nat → Int} {hn : Nat} {ct tx : Nat → Int} {tl : Nat} (h : MI I v hs hn ct tx tl) (hj : FrQ I J) : MI J v hs hn ct tx tl := ⟨h.1.q hj, h.2.1, h.2.2.q hj⟩
theorem rcvM {q : zP} {L : Nat} {I : zI} {as : List zV} (h : (zM_ (zpA q)).1.cls = (zCl.getD 8 zCd).1) : zrcv q (mS L I) (vR 137 :: as) = true := rcv (n := 17) (c := 8) rfl ⟨by decide, by omega, h.symm⟩
section MB
variable {L d : Nat} {I : zI} {v : Nat → Int} {hs : Nat → Nat → Int} {hn : Nat} {ct tx : Nat → Int} {tl : Nat}
theorem g_lc0 {y pc : Nat} {lv : zLv} {st : List zV} {Q : Option zV → zI → Prop} {len A B K : Nat} {Z : Int} (n : Nat) (hf : zfn pc (zC y) = some (.lconst 0, len, A, B, K, Z)) (k : Go L d y n lv (vL 0 :: st) I Q) (hn : pc + len = n := by rfl) : Go L d y pc lv st I Q := Go.px hf rfl rfl rfl (fun _ => rfl) hn k
theorem g_lc1 {y pc : Nat} {lv : zLv} {st : List zV} {Q : Option zV → zI → Prop} {len A B K : Nat} {Z : Int} (n : Nat) (hf : zfn pc (zC y) = some (.lconst 1, len, A, B, K, Z)) (k : Go L d y n lv (vL 1 :: st) I Q) (hn : pc + len = n := by rfl) : Go L d y pc lv st I Q := Go.px hf rfl rfl rfl (fun _ => rfl) hn k
theorem lc_r (a b : Int) : -1 ≤ (if b < a then (1 : Int) else if a = b then 0 else -1) ∧ (if b < a then (1 : Int) else if a = b then 0 else -1) ≤ 1 ∧ ((if b < a then (1 : Int) else if a = b then 0 else -1) < 0 ↔ a < b) ∧ (0 < (if b < a then (1 : Int) else if a = b then 0 else -1) ↔ b < a) := by
  split
  · omega
  · split <;> omega
theorem m_in {x lo hi : Int} (hx : rng64 x) (hl : rng64 lo) (hh : rng64 hi) : Ev L d k_X8_in [vL x, vL lo, vL hi] I (some (vI (b2i (lo ≤ x ∧ x ≤ hi)))) I := by
  have l1 := lc_r x lo
  have l2 := lc_r x hi
  show Go L d k_X8_in 0 [some (vL x), none, some (vL lo), none, some (vL hi), none] [] I _
  refine g_l 1 rfl rfl ?_
  refine g_l 2 rfl rfl ?_
  refine g_lcmp 3 rfl hx hl ?_
  generalize (if lo < x then (1 : Int) else if x = lo then 0 else -1) = c1 at l1 ⊢
  refine g_if_lt rfl (by omega) (fun h1 => ?_) (fun h1 => ?_)
  · refine g_p 18 rfl rfl ?_
    exact g_retb rfl rfl (Or.inl rfl) ⟨by rw [← b2i_f (by omega)], rfl⟩
  · refine g_l 7 rfl rfl ?_
    refine g_l 9 rfl rfl ?_
    refine g_lcmp 10 rfl hx hh ?_
    generalize (if hi < x then (1 : Int) else if x = hi then 0 else -1) = c2 at l2 ⊢
    refine g_if_gt rfl (by omega) (fun h2 => ?_) (fun h2 => ?_)
    · refine g_p 18 rfl rfl ?_
      exact g_retb rfl rfl (Or.inl rfl) ⟨by rw [← b2i_f (by omega)], rfl⟩
    · refine g_p 14 rfl rfl ?_
      refine g_goto rfl ?_
      exact g_retb rfl rfl (Or.inr rfl) ⟨by rw [← b2i_t (by omega)], rfl⟩
theorem m_refuses {w : Int} (hw : why3 w) : Ev L d k_X8_refuses [vR 137, vI w] I (some (vI w)) (zup2 I 140 (-2 - w).toNat (I 140 (-2 - w).toNat + 1)) := by
  show Go L d k_X8_refuses 0 [some (vR 137), some (vI w)] [] I _
  refine g_l 1 rfl rfl ?_
  refine g_fr rfl rfl ⟨⟨by decide, by omega, by decide⟩, by decide⟩ rfl ?_
  refine g_p 6 rfl rfl ?_
  refine g_l 7 rfl rfl ?_
  refine g_p 8 rfl rfl ?_
  refine g_p 9 rfl rfl ?_
  refine g_ia (-2 - w).toNat rfl rfl (by omega) (by omega) ?_
  refine g_p 11 rfl rfl ?_
  refine g_p 12 rfl rfl ?_
  refine g_ias (-2 - w).toNat rfl rfl (by omega) (by omega) (by omega) ?_
  refine g_l 14 rfl rfl ?_
  exact g_ret rfl rfl ⟨rfl, rfl⟩
theorem m_refuse {w : Int} (hw : why3 w) (h : MI I v hs hn ct tx tl) : Ct L d k_X8_refuses [vR 137, vI w] I (fun r J => r = some (vI w) ∧ MI J v hs hn (rf0 ct w) tx tl ∧ FrM I J) := by
  refine Go.mono (m_refuses hw) (fun r J hJ => ?_)
  obtain ⟨rfl, rfl⟩ := hJ
  have e : rf0 ct w = rfs ct w := if_neg (by omega)
  rw [e]
  refine ⟨rfl, ⟨fun k hk => by rw [zup2_ne (by omega)]; exact h.1 k hk, h.2.1, ⟨h.2.2.1.1, h.2.2.1.2.1, by rw [zup2_ne (by omega)]; exact h.2.2.1.2.2.1, fun i hi k hk => by rw [zup2_ne (by omega)]; exact h.2.2.1.2.2.2 i hi k hk⟩, fun j hj => ?_, by rw [zup2_ne (by omega)]; exact h.2.2.2.2.1, h.2.2.2.2.2.1, fun j hj => by rw [zup2_ne (by omega)]; exact h.2.2.2.2.2.2 j hj⟩, fun q hq => zup2_ne (by omega)⟩
  show _ = zup ct (-2 - w).toNat (ct (-2 - w).toNat + 1) j
  rw [zup2_fn]
  exact zup_pt (N := 3) h.2.2.2.1 (by rw [h.2.2.2.1 _ (by omega)]) j hj
theorem m_many (h : AL I v) : Ev L d k_X8_many [vR 137] I (some (vI (v 0))) I := by
  show Go L d k_X8_many 0 [some (vR 137)] [] I _
  refine g_l 1 rfl rfl ?_
  refine g_fr rfl rfl ⟨⟨by decide, by omega, by decide⟩, by decide⟩ rfl ?_
  refine g_p 5 rfl rfl ?_
  refine g_ia 0 rfl rfl rfl (by omega) ?_
  rw [h 0 (by omega)]
  exact g_ret rfl rfl ⟨rfl, rfl⟩
theorem m_bits {p : Nat} (h : AL I v) (hp : p < 8) : Ev L d k_X8_bits [vR 137, vI p] I (some (vI (v (1 + p)))) I := by
  show Go L d k_X8_bits 0 [some (vR 137), some (vI p)] [] I _
  refine g_l 1 rfl rfl ?_
  refine g_fr rfl rfl ⟨⟨by decide, by omega, by decide⟩, by decide⟩ rfl ?_
  refine g_p 5 rfl rfl ?_
  refine g_l 6 rfl rfl ?_
  refine g_p 7 rfl rfl ?_
  refine g_ia (1 + p) rfl rfl (by omega) (by omega) ?_
  rw [h _ (by omega)]
  exact g_ret rfl rfl ⟨rfl, rfl⟩
theorem m_lies {p : Nat} (h : AL I v) (hp : p < 8) : Ev L d k_X8_lies [vR 137, vI p] I (some (vI (v (11 + p)))) I := by
  show Go L d k_X8_lies 0 [some (vR 137), some (vI p)] [] I _
  refine g_l 1 rfl rfl ?_
  refine g_fr rfl rfl ⟨⟨by decide, by omega, by decide⟩, by decide⟩ rfl ?_
  refine g_p 6 rfl rfl ?_
  refine g_l 7 rfl rfl ?_
  refine g_p 8 rfl rfl ?_
  refine g_ia (11 + p) rfl rfl (by omega) (by omega) ?_
  rw [h _ (by omega)]
  exact g_ret rfl rfl ⟨rfl, rfl⟩
theorem m_wide (h : AL I v) : Ev L d k_X8_wide [vR 137] I (some (vI (v 9))) I := by
  show Go L d k_X8_wide 0 [some (vR 137)] [] I _
  refine g_l 1 rfl rfl ?_
  refine g_fr rfl rfl ⟨⟨by decide, by omega, by decide⟩, by decide⟩ rfl ?_
  refine g_p 6 rfl rfl ?_
  refine g_ia 9 rfl rfl rfl (by omega) ?_
  rw [h 9 (by omega)]
  exact g_ret rfl rfl ⟨rfl, rfl⟩
theorem m_high (h : AL I v) : Ev L d k_X8_high [vR 137] I (some (vI (v 10))) I := by
  show Go L d k_X8_high 0 [some (vR 137)] [] I _
  refine g_l 1 rfl rfl ?_
  refine g_fr rfl rfl ⟨⟨by decide, by omega, by decide⟩, by decide⟩ rfl ?_
  refine g_p 6 rfl rfl ?_
  refine g_ia 10 rfl rfl rfl (by omega) ?_
  rw [h 10 (by omega)]
  exact g_ret rfl rfl ⟨rfl, rfl⟩
theorem m_places (h : AL I v) : Ev L (d + 1) k_X8_places [vR 137] I (some (vI (fS v))) I := by
  show Go L (d + 1) k_X8_places 0 [some (vR 137)] [] I _
  refine g_l 1 rfl rfl ?_
  refine g_callE rfl (m_wide h) ?_ (hr := rcvM rfl)
  refine g_l 5 rfl rfl ?_
  refine g_callE rfl (m_high h) ?_ (hr := rcvM rfl)
  refine g_p 9 rfl rfl ?_
  exact g_ret rfl rfl ⟨rfl, rfl⟩
theorem m_isPiece {p : Int} (h : AL I v) (ho : OKv v) (hp : rng p) : Ev L (d + 1) k_X8_isPiece [vR 137, vI p] I (some (vI (b2i (0 ≤ p ∧ p < v 0)))) I := by
  have h0 := ho.1
  show Go L (d + 1) k_X8_isPiece 0 [some (vR 137), some (vI p)] [] I _
  refine g_l 1 rfl rfl ?_
  refine g_i2l 2 rfl (by omega) ?_
  refine g_lc0 3 rfl ?_
  refine g_l 4 rfl rfl ?_
  refine g_callE rfl (m_many h) ?_ (hr := rcvM rfl)
  refine g_p 8 rfl rfl ?_
  refine g_p 9 rfl rfl ?_
  refine g_i2l 10 rfl (by omega) ?_
  refine g_callE rfl (m_in (by omega) (by decide) (by omega)) ?_
  have e : b2i (0 ≤ p ∧ p ≤ v 0 - 1) = b2i (0 ≤ p ∧ p < v 0) := by
    unfold b2i
    by_cases hc : 0 ≤ p ∧ p < v 0
    · rw [if_pos hc, if_pos (by omega)]
    · rw [if_neg hc, if_neg (by omega)]
  rw [e]
  have hb := b2i_r (0 ≤ p ∧ p < v 0)
  exact g_retb rfl rfl (by omega) ⟨rfl, rfl⟩
theorem m_isPlace {p : Int} (h : AL I v) (ho : OKv v) (hp : rng p) : Ev L (d + 2) k_X8_isPlace [vR 137, vI p] I (some (vI (b2i (0 ≤ p ∧ p < fS v)))) I := by
  have h0 := fS_rng ho
  show Go L (d + 2) k_X8_isPlace 0 [some (vR 137), some (vI p)] [] I _
  refine g_l 1 rfl rfl ?_
  refine g_i2l 2 rfl (by omega) ?_
  refine g_lc0 3 rfl ?_
  refine g_l 4 rfl rfl ?_
  refine g_callE rfl (m_places h) ?_ (hr := rcvM rfl)
  refine g_p 8 rfl rfl ?_
  refine g_p 9 rfl rfl ?_
  refine g_i2l 10 rfl (by omega) ?_
  refine g_callE rfl (m_in (by omega) (by decide) (by omega)) ?_
  have e : b2i (0 ≤ p ∧ p ≤ fS v - 1) = b2i (0 ≤ p ∧ p < fS v) := by
    unfold b2i
    by_cases hc : 0 ≤ p ∧ p < fS v
    · rw [if_pos hc, if_pos (by omega)]
    · rw [if_neg hc, if_neg (by omega)]
  rw [e]
  have hb := b2i_r (0 ≤ p ∧ p < fS v)
  exact g_retb rfl rfl (by omega) ⟨rfl, rfl⟩
theorem b2i_iff {a b : Prop} [Decidable a] [Decidable b] (h : a ↔ b) : b2i a = b2i b := by
  unfold b2i
  by_cases hb : b
  · rw [if_pos hb, if_pos (h.mpr hb)]
  · rw [if_neg hb, if_neg (fun z => hb (h.mp z))]
theorem m_lays {w g : Int} : Ct L d k_X8_laysTable [vR 137, vI w, vI g] I (fun r J => r = none ∧ (∀ k, J 138 k = if k = 9 then w else if k = 10 then g else if 11 ≤ k ∧ k < 19 then -1 else I 138 k) ∧ ∀ q, q ≠ 138 → J q = I q) := by
  have key : ∀ (m p : Nat) (J : zI), p + m = 8 → (∀ k, J 138 k = if k = 9 then w else if k = 10 then g else if 11 ≤ k ∧ k < 11 + p then -1 else I 138 k) → (∀ q, q ≠ 138 → J q = I q) → Go L d k_X8_laysTable 18 [some (vR 137), some (vI w), some (vI g), some (vI p)] [] J (fun r J => r = none ∧ (∀ k, J 138 k = if k = 9 then w else if k = 10 then g else if 11 ≤ k ∧ k < 19 then -1 else I 138 k) ∧ ∀ q, q ≠ 138 → J q = I q) := by
    intro m
    induction m with
    | zero =>
      intro p J hp h1 h2
      have hp : p = 8 := by omega
      subst hp
      refine g_l 19 rfl rfl ?_
      refine g_p 21 rfl rfl ?_
      refine g_ic_ge rfl (by omega) (by omega) (fun h => ?_) (fun h => ?_)
      · exact g_ret rfl rfl ⟨rfl, h1, h2⟩
      · exact absurd h (by omega)
    | succ m ih =>
      intro p J hp h1 h2
      refine g_l 19 rfl rfl ?_
      refine g_p 21 rfl rfl ?_
      refine g_ic_ge rfl (by omega) (by omega) (fun h => ?_) (fun h => ?_)
      · exact absurd h (by omega)
      · refine g_l 25 rfl rfl ?_
        refine g_fr rfl rfl ⟨⟨by decide, by omega, by decide⟩, by decide⟩ rfl ?_
        refine g_p 30 rfl rfl ?_
        refine g_l 31 rfl rfl ?_
        refine g_p 32 rfl rfl ?_
        refine g_p 33 rfl rfl ?_
        refine g_ias (11 + p) rfl rfl (by omega) (by omega) (by omega) ?_
        refine g_l 37 rfl rfl ?_
        refine g_goto rfl ?_
        refine ih (p + 1) _ (by omega) (fun k => ?_) (fun q hq => by rw [zup2_ne hq]; exact h2 q hq)
        by_cases hk : k = 11 + p
        · rw [hk, zup2_at, if_neg (by omega), if_neg (by omega), if_pos (by omega)]
        · rw [zup2_an hk, h1 k]
          by_cases h9 : k = 9
          · rw [if_pos h9, if_pos h9]
          · rw [if_neg h9, if_neg h9]
            by_cases h10 : k = 10
            · rw [if_pos h10, if_pos h10]
            · rw [if_neg h10, if_neg h10]
              by_cases h11 : 11 ≤ k ∧ k < 11 + p
              · rw [if_pos h11, if_pos (by omega)]
              · rw [if_neg h11, if_neg (by omega)]
  show Go L d k_X8_laysTable 0 [some (vR 137), some (vI w), some (vI g), none] [] I _
  refine g_l 1 rfl rfl ?_
  refine g_fr rfl rfl ⟨⟨by decide, by omega, by decide⟩, by decide⟩ rfl ?_
  refine g_p 6 rfl rfl ?_
  refine g_l 7 rfl rfl ?_
  refine g_ias 9 rfl rfl (by omega) rfl (by omega) ?_
  refine g_l 9 rfl rfl ?_
  refine g_fr rfl rfl ⟨⟨by decide, by omega, by decide⟩, by decide⟩ rfl ?_
  refine g_p 14 rfl rfl ?_
  refine g_l 15 rfl rfl ?_
  refine g_ias 10 rfl rfl (by omega) rfl (by omega) ?_
  refine g_p 17 rfl rfl ?_
  refine g_l 18 rfl rfl ?_
  refine key 8 0 _ (by omega) (fun k => ?_) (fun q hq => by rw [zup2_ne hq, zup2_ne hq])
  by_cases h10 : k = 10
  · rw [h10, zup2_at, if_neg (by omega), if_pos rfl]
  · rw [zup2_an h10]
    by_cases h9 : k = 9
    · rw [h9, zup2_at, if_pos rfl]
    · rw [zup2_an h9, if_neg h9, if_neg h10, if_neg (by omega)]
theorem m_keep2 (h : MI I v hs hn ct tx tl) : Ct L d k_X8_keep [vR 137] I (fun r J => r = none ∧ MI J v (hpush hs hn v) (if hn < 6 then hn + 1 else 6) ct tx tl ∧ ∀ q, q ≠ 137 → q ≠ 139 → J q = I q) := by
  obtain ⟨hA, ho, ⟨a1, a2, a3, a4⟩, hb, hc⟩ := h
  have hok := hpush_ok a2 ho a1
  have second : ∀ (s : Nat) (J : zI), s ≤ 5 → J 137 2 = (s : Int) → J 137 12 = I 137 12 → (∀ q, q ≠ 137 → q ≠ 139 → J q = I q) → (∀ i, i < s → ∀ k, k < 19 → J 139 (19 * i + k) = hpush hs hn v i k) → (hn < 6 ∧ s = hn ∨ hn = 6 ∧ s = 5) → Go L d k_X8_keep 48 [some (vR 137), none] [] J (fun r J => r = none ∧ MI J v (hpush hs hn v) (if hn < 6 then hn + 1 else 6) ct tx tl ∧ ∀ q, q ≠ 137 → q ≠ 139 → J q = I q) ∧ ∀ x : Int, Go L d k_X8_keep 48 [some (vR 137), some (vI x)] [] J (fun r J => r = none ∧ MI J v (hpush hs hn v) (if hn < 6 then hn + 1 else 6) ct tx tl ∧ ∀ q, q ≠ 137 → q ≠ 139 → J q = I q) := by
    intro s J hs5 j2 j12 jq jp hcase
    have loop : ∀ (m k : Nat) (K : zI), k + m = 19 → K 137 = J 137 → (∀ q, q ≠ 137 → q ≠ 139 → K q = I q) → (∀ i, i < s → ∀ k, k < 19 → K 139 (19 * i + k) = hpush hs hn v i k) → (∀ j, j < k → K 139 (19 * s + j) = v j) → Go L d k_X8_keep 50 [some (vR 137), some (vI k)] [] K (fun r J => r = none ∧ MI J v (hpush hs hn v) (if hn < 6 then hn + 1 else 6) ct tx tl ∧ ∀ q, q ≠ 137 → q ≠ 139 → J q = I q) := by
      intro m
      induction m with
      | zero =>
        intro k K hk k1 k2 k3 k4
        refine g_l 51 rfl rfl ?_
        refine g_p 53 rfl rfl ?_
        refine g_ic_ge rfl (by omega) (by omega) (fun g => ?_) (fun g => ?_)
        · refine g_l 83 rfl rfl ?_
          refine g_p 84 rfl rfl ?_
          refine g_fi rfl rfl ⟨⟨by decide, by omega, by decide⟩, by decide⟩ ?_
          refine g_p 88 rfl rfl ?_
          refine g_p 89 rfl rfl ?_
          refine g_wi rfl rfl ⟨⟨by decide, by omega, by decide⟩, by decide⟩ ?_
          rw [k1, j2]
          refine g_ret rfl rfl ⟨rfl, ⟨fun q hq => ?_, ho, ⟨by split <;> omega, hok, ?_, fun i hi q hq => ?_⟩, fun j hj => ?_, ?_, hc.2.1, fun j hj => ?_⟩, fun q hq => ?_⟩
          · rw [zup2_ne (by omega), k2 138 (by omega) (by omega)]
            exact hA q hq
          · rw [zup2_at]
            split <;> omega
          · rw [zup2_ne (by omega)]
            by_cases his : i < s
            · exact k3 i his q hq
            · have his : i = s := by
                split at hi <;> omega
              rw [his, k4 q (by omega)]
              unfold hpush
              rcases hcase with hcase | hcase
              · rw [if_pos hcase.1, if_pos hcase.2]
              · rw [if_neg (by omega), if_pos hcase.2]
          · rw [zup2_ne (by omega), k2 140 (by omega) (by omega)]
            exact hb j hj
          · rw [zup2_an (by omega), k1, j12]
            exact hc.1
          · rw [zup2_ne (by omega), k2 147 (by omega) (by omega)]
            exact hc.2.2 j hj
          · intro q2
            rw [zup2_ne (by omega)]
            exact k2 q (by omega) q2
        · exact absurd g (by omega)
      | succ m ih =>
        intro k K hk k1 k2 k3 k4
        refine g_l 51 rfl rfl ?_
        refine g_p 53 rfl rfl ?_
        refine g_ic_ge rfl (by omega) (by omega) (fun g => ?_) (fun g => ?_)
        · exact absurd g (by omega)
        · refine g_l 57 rfl rfl ?_
          refine g_fr rfl rfl ⟨⟨by decide, by omega, by decide⟩, by decide⟩ rfl ?_
          refine g_p 62 rfl rfl ?_
          refine g_l 63 rfl rfl ?_
          refine g_fi rfl rfl ⟨⟨by decide, by omega, by decide⟩, by decide⟩ ?_
          refine g_p 67 rfl rfl ?_
          refine g_l 68 rfl rfl ?_
          refine g_p 69 rfl rfl ?_
          refine g_l 70 rfl rfl ?_
          refine g_fr rfl rfl ⟨⟨by decide, by omega, by decide⟩, by decide⟩ rfl ?_
          refine g_l 74 rfl rfl ?_
          rw [k1, j2]
          refine g_ia k rfl rfl rfl (by omega) ?_
          rw [k2 138 (by omega) (by omega), hA k (by omega)]
          refine g_ias (19 * s + k) rfl rfl (by omega) (by omega) (by omega) ?_
          refine g_l 79 rfl rfl ?_
          refine g_goto rfl ?_
          refine ih (k + 1) _ (by omega) (by rw [zup2_ne (by omega)]; exact k1) (fun q q1 q2 => by rw [zup2_ne q2]; exact k2 q q1 q2) (fun i hi q hq => by rw [zup2_an (by omega)]; exact k3 i hi q hq) (fun j hj => ?_)
          by_cases hjk : j = k
          · rw [hjk, zup2_at]
          · rw [zup2_an (by omega)]
            exact k4 j (by omega)
    refine ⟨?_, fun x => ?_⟩
    · refine g_p 49 rfl rfl ?_
      refine g_l 50 rfl rfl ?_
      exact loop 19 0 J (by omega) rfl jq jp (fun j hj => absurd hj (by omega))
    · refine g_p 49 rfl rfl ?_
      refine g_l 50 rfl rfl ?_
      exact loop 19 0 J (by omega) rfl jq jp (fun j hj => absurd hj (by omega))
  show Go L d k_X8_keep 0 [some (vR 137), none] [] I _
  refine g_l 1 rfl rfl ?_
  refine g_fi rfl rfl ⟨⟨by decide, by omega, by decide⟩, by decide⟩ ?_
  refine g_p 6 rfl rfl ?_
  rw [a3]
  refine g_ic_ne rfl (by omega) (by omega) (fun g => ?_) (fun g => ?_)
  · refine (second hn I (by omega) a3 rfl (fun _ _ _ => rfl) (fun i hi k hk => ?_) (by omega)).1
    rw [a4 i hi k hk]
    unfold hpush
    rw [if_pos (by omega), if_neg (by omega)]
  · have h6 : hn = 6 := by omega
    subst h6
    refine g_p 10 rfl rfl ?_
    refine g_l 11 rfl rfl ?_
    have first : ∀ (m k : Nat) (K : zI), k + m = 95 → K 137 = I 137 → (∀ q, q ≠ 139 → K q = I q) → (∀ j, k ≤ j → K 139 j = I 139 j) → (∀ j, j < k → K 139 j = I 139 (j + 19)) → Go L d k_X8_keep 11 [some (vR 137), some (vI k)] [] K (fun r J => r = none ∧ MI J v (hpush hs 6 v) (if 6 < 6 then 6 + 1 else 6) ct tx tl ∧ ∀ q, q ≠ 137 → q ≠ 139 → J q = I q) := by
      intro m
      induction m with
      | zero =>
        intro k K hk k1 k2 k3 k4
        refine g_l 12 rfl rfl ?_
        refine g_p 14 rfl rfl ?_
        refine g_ic_ge rfl (by omega) (by omega) (fun g2 => ?_) (fun g2 => ?_)
        · refine g_l 39 rfl rfl ?_
          refine g_p 40 rfl rfl ?_
          refine g_fi rfl rfl ⟨⟨by decide, by omega, by decide⟩, by decide⟩ ?_
          refine g_p 44 rfl rfl ?_
          refine g_p 45 rfl rfl ?_
          refine g_wi rfl rfl ⟨⟨by decide, by omega, by decide⟩, by decide⟩ ?_
          rw [k1, a3]
          refine (second 5 _ (by omega) (by rw [zup2_at]; rfl) (by rw [zup2_an (by omega), k1]) (fun q q1 q2 => by rw [zup2_ne q1]; exact k2 q q2) (fun i hi q hq => ?_) (by omega)).2 _
          rw [zup2_ne (by omega), k4 (19 * i + q) (by omega), show 19 * i + q + 19 = 19 * (i + 1) + q by omega, a4 (i + 1) (by omega) q hq]
          unfold hpush
          rw [if_neg (by omega), if_neg (by omega)]
        · exact absurd g2 (by omega)
      | succ m ih =>
        intro k K hk k1 k2 k3 k4
        refine g_l 12 rfl rfl ?_
        refine g_p 14 rfl rfl ?_
        refine g_ic_ge rfl (by omega) (by omega) (fun g2 => ?_) (fun g2 => ?_)
        · exact absurd g2 (by omega)
        · refine g_l 18 rfl rfl ?_
          refine g_fr rfl rfl ⟨⟨by decide, by omega, by decide⟩, by decide⟩ rfl ?_
          refine g_l 22 rfl rfl ?_
          refine g_l 23 rfl rfl ?_
          refine g_fr rfl rfl ⟨⟨by decide, by omega, by decide⟩, by decide⟩ rfl ?_
          refine g_l 27 rfl rfl ?_
          refine g_p 29 rfl rfl ?_
          refine g_p 30 rfl rfl ?_
          refine g_ia (k + 19) rfl rfl (by omega) (by omega) ?_
          rw [k3 (k + 19) (by omega)]
          refine g_ias k rfl rfl (by omega) rfl (by omega) ?_
          refine g_l 35 rfl rfl ?_
          refine g_goto rfl ?_
          refine ih (k + 1) _ (by omega) (by rw [zup2_ne (by omega)]; exact k1) (fun q q2 => by rw [zup2_ne q2]; exact k2 q q2) (fun j hj => by rw [zup2_an (by omega)]; exact k3 j (by omega)) (fun j hj => ?_)
          by_cases hjk : j = k
          · rw [hjk, zup2_at]
          · rw [zup2_an hjk]
            exact k4 j (by omega)
    exact first 95 0 I (by omega) rfl (fun _ _ => rfl) (fun _ _ => rfl) (fun j hj => absurd hj (by omega))
theorem m_keep (h : MI I v hs hn ct tx tl) : Ct L d k_X8_keep [vR 137] I (fun r J => r = none ∧ MI J v (hpush hs hn v) (if hn < 6 then hn + 1 else 6) ct tx tl ∧ FrM I J) := Go.mono (m_keep2 h) (fun r J hJ => ⟨hJ.1, hJ.2.1, fun q hq => hJ.2.2 q (by omega) (by omega)⟩)
end MB
