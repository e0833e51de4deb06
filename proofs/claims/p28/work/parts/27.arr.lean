/-! Arranger -/
theorem adF_eq {f c c' : Nat → Int} {w n p v : Int} (hw : 1 ≤ w) (hp : 0 ≤ p ∧ p < n) (hwn : n % w = 0) (h8 : n ≤ 8) (h : ∀ j, j < 8 → c j = c' j) : ∀ m q, adF f c w n p v m q = adF f c' w n p v m q
  | 0, _ => rfl
  | m + 1, q => by
    have hr := nb_rng (q := (q : Int)) hw hp hwn
    have ih := adF_eq hw hp hwn h8 h m (q + 1) (v := v) (f := f)
    unfold adF
    rw [ih]
    by_cases h1 : nb w n p q = -1
    · rw [if_neg (fun z => z.1 h1), if_neg (fun z => z.1 h1)]
    · rw [h (nb w n p q).toNat (by omega)]
/-- whether a content fits at the rim, from side q on -/
def ffF (f : Nat → Int) (w n p v : Int) : Nat → Nat → Prop
  | 0, _ => True
  | m + 1, q => (nb w n p q = -1 ↔ f (sdT v q).toNat = 0) ∧ ffF f w n p v m (q + 1)
def rowc (row : Nat → Int) (p : Nat) : Nat → Int := fun j => if j < p then row j else -1
def okS (f : Nat → Int) (n : Nat) (w tu fr : Int) (row : Nat → Int) (p v : Nat) : Prop := (v % 4 = 0 ∨ tu = 1) ∧ (∀ j, j < p → row j / 4 ≠ ((v / 4 : Nat) : Int)) ∧ (fr = 1 → ffF f w n p v 4 0)
noncomputable def fsV (ok : Nat → Prop) (add : Nat → Int) (cost : Int) (child : Nat → Int → Int × (Nat → Int) → Int × (Nat → Int)) : Nat → Nat → Int × (Nat → Int) → Int × (Nat → Int)
  | 0, _, B => B
  | m + 1, v, B => fsV ok add cost child m (v + 1) (@ite _ (ok v ∧ cost + add v < B.1) (Classical.propDecidable _) (child v (cost + add v) B) B)
noncomputable def fs (f : Nat → Int) (n : Nat) (w tu fr : Int) : Nat → Nat → (Nat → Int) → Int → Int × (Nat → Int) → Int × (Nat → Int)
  | 0, _, row, cost, _ => (cost, row)
  | r + 1, p, row, cost, B => fsV (okS f n w tu fr row p) (fun v => adC f (rowc row p) w n p v) cost (fun v c B => fs f n w tu fr r (p + 1) (zup row p v) c B) (4 * n) 0 B
theorem fsV_skip {ok : Nat → Prop} {add : Nat → Int} {cost : Int} {child : Nat → Int → Int × (Nat → Int) → Int × (Nat → Int)} : ∀ (j m v : Nat) (B : Int × (Nat → Int)), (∀ i, i < j → ¬ ok (v + i)) → fsV ok add cost child (m + j) v B = fsV ok add cost child m (v + j) B
  | 0, m, v, B, _ => rfl
  | j + 1, m, v, B, h => by
    have h1 := fsV_skip (ok := ok) (add := add) (cost := cost) (child := child) j m (v + 1) B (fun i hi => by have := h (i + 1) (by omega); rwa [show v + (i + 1) = v + 1 + i by omega] at this)
    rw [show m + (j + 1) = (m + j) + 1 by omega, fsV, if_neg (fun z => h 0 (by omega) z.1), h1, show v + 1 + j = v + (j + 1) by omega]
def FF (I : zI) (n : Nat) (w tu fr : Int) (f row : Nat → Int) (p : Nat) : Prop :=
  (1 ≤ n ∧ n ≤ 8) ∧ I 37 0 = n ∧ (∀ k, k < 4 * n → I 39 k = f k) ∧ DfAt I f (4 * n) ∧ (I 77 0 = w ∧ 1 ≤ w ∧ w ≤ 8) ∧ (1 ≤ I 77 1 ∧ I 77 1 ≤ 8) ∧ I 77 0 * I 77 1 = n ∧ (∀ j, j < 8 → I 78 j = rowc row p j) ∧
  (∀ k, k < 8 → (I 76 k = 0 ∨ I 76 k = 1) ∧ (I 76 k = 1 ↔ ∃ j, j < p ∧ row j / 4 = (k : Int))) ∧ I 75 0 = (if tu = 1 then 4 else 1) ∧ I 75 1 = fr ∧ (fr = 0 ∨ fr = 1) ∧ (tu = 0 ∨ tu = 1) ∧ (∀ j, j < p → 0 ≤ row j ∧ row j < 4 * n) ∧ p ≤ n ∧ ∀ k, 0 ≤ f k ∧ f k ≤ 255
def FrF (I J : zI) : Prop := (∀ q, q ≠ 75 → q ≠ 79 → q ≠ 80 → J q = I q) ∧ ∀ j, j ≠ 5 → J 75 j = I 75 j
theorem FrF.rf {I : zI} : FrF I I := ⟨fun _ _ _ _ => rfl, fun _ _ => rfl⟩
theorem FrF.tr {I J K : zI} (h1 : FrF I J) (h2 : FrF J K) : FrF I K := ⟨fun q a b c => (h2.1 q a b c).trans (h1.1 q a b c), fun j hj => (h2.2 j hj).trans (h1.2 j hj)⟩
theorem FF.fr {I J : zI} {n p : Nat} {w tu fr : Int} {f row : Nat → Int} (h : FF I n w tu fr f row p) (hj : FrF I J) : FF J n w tu fr f row p := by
  obtain ⟨h1, h2, h3, h4, h5, h6, h7, h8, h9, h10, h11, h12⟩ := h
  refine ⟨h1, ?_, ?_, ?_, ?_, ?_, ?_, ?_, ?_, ?_, ?_, h12⟩
  · rw [hj.1 37 (by omega) (by omega) (by omega)]; exact h2
  · rw [hj.1 39 (by omega) (by omega) (by omega)]; exact h3
  · intro x y hx hy hne
    rw [hj.1 (41 + x) (by omega) (by omega) (by omega)]
    exact h4 x y hx hy hne
  · rw [hj.1 77 (by omega) (by omega) (by omega)]; exact h5
  · rw [hj.1 77 (by omega) (by omega) (by omega)]; exact h6
  · rw [hj.1 77 (by omega) (by omega) (by omega)]; exact h7
  · rw [hj.1 78 (by omega) (by omega) (by omega)]; exact h8
  · rw [hj.1 76 (by omega) (by omega) (by omega)]; exact h9
  · rw [hj.2 0 (by omega)]; exact h10
  · rw [hj.2 1 (by omega)]; exact h11
theorem FF.ro {I : zI} {n p : Nat} {w tu fr : Int} {f row : Nat → Int} (h : FF I n w tu fr f row p) : RO I 77 ∧ I 77 0 * I 77 1 ≤ 8 := by
  obtain ⟨h1, h2, h3, h4, h5, h6, h7, h8, h9, h10, h11, h12, h13, h14, h15⟩ := h
  refine ⟨⟨by omega, by omega, by omega, by omega, by omega, fun j hj => ?_⟩, by omega⟩
  show -1 ≤ I 78 j ∧ I 78 j ≤ 31
  rw [h8 j hj]
  unfold rowc
  split
  · rename_i hjp
    have := h14 j hjp
    omega
  · omega
section AR
variable {L d : Nat} {I : zI}
theorem IsR77 : IsR 77 := by unfold IsR; omega
theorem IsR79 : IsR 79 := by unfold IsR; omega
theorem c_fitsFrame {n p : Nat} {w tu fr : Int} {f row : Nat → Int} {v : Nat} (h : FF I n w tu fr f row p) (hp : p < n) (hv : v < 4 * n) : ∃ b : Int, (b = 0 ∨ b = 1) ∧ (b = 1 ↔ ffF f w n p v 4 0) ∧ Ev L (d + 2) k_X0_fitsFrame [vR 75, vR 37, vI p, vI v] I (some (vI b)) I := by
  obtain ⟨hro, h8⟩ := h.ro
  obtain ⟨h1, h2, h3, h4, h5, h6, h7, h8', h9, h10, h11, h12, h13, h14, h15, hfr⟩ := h
  have key : ∀ (m q : Nat), q + m = 4 → ∃ b : Int, (b = 0 ∨ b = 1) ∧ (b = 1 ↔ ffF f w n p v m q) ∧ ∀ (o5 : Option zV), Go L (d + 2) k_X0_fitsFrame 3 [some (vR 75), some (vR 37), some (vI p), some (vI v), some (vI q), o5] [] I (fun r J => r = some (vI b) ∧ J = I) := by
    intro m
    induction m with
    | zero =>
      intro q hq
      refine ⟨1, Or.inr rfl, ⟨fun _ => trivial, fun _ => rfl⟩, fun o5 => ?_⟩
      refine g_l 5 rfl rfl ?_
      refine g_p 6 rfl rfl ?_
      refine g_ic_ge rfl (by omega) (by omega) (fun g => ?_) (fun g => ?_)
      · refine g_p 54 rfl rfl ?_
        exact g_retb rfl rfl (Or.inr rfl) ⟨rfl, rfl⟩
      · exact absurd g (by omega)
    | succ m ih =>
      intro q hq
      obtain ⟨b, hb, hbi, hgo⟩ := ih (q + 1) (by omega)
      have hnr := nb_rng (q := (q : Int)) h5.2.1 (p := (p : Int)) (n := (n : Int)) ⟨by omega, by omega⟩ (by rw [← h7, h5.1]; exact w_dvd)
      have hs := sdT_rng (v := (v : Int)) (q := (q : Int))
      have hbb := b2i_r (I 39 (sdT v q).toNat = 0)
      have hff := hfr (sdT v q).toNat
      have hfe := h3 (sdT v q).toNat (by omega)
      have cmp : ∀ (x : Int) (o5 : Option zV) (Q : Option zV → zI → Prop), (x = 0 ∨ x = 1) → (x = b2i (I 39 (sdT v q).toNat = 0) → Go L (d + 2) k_X0_fitsFrame 47 [some (vR 75), some (vR 37), some (vI p), some (vI v), some (vI q), some (vI x)] [] I Q) → (¬ x = b2i (I 39 (sdT v q).toNat = 0) → Go L (d + 2) k_X0_fitsFrame 45 [some (vR 75), some (vR 37), some (vI p), some (vI v), some (vI q), some (vI x)] [] I Q) → Go L (d + 2) k_X0_fitsFrame 28 [some (vR 75), some (vR 37), some (vI p), some (vI v), some (vI q), o5] [vI x] I Q := by
        intro x o5 Q hx k1 k2
        refine g_l 30 rfl rfl ?_
        refine g_l 32 rfl rfl ?_
        refine g_l 33 rfl rfl ?_
        refine g_l 34 rfl rfl ?_
        refine g_l 36 rfl rfl ?_
        refine g_callE rfl (c_sideTowards (v := (v : Int)) (q := (q : Int)) ⟨by omega, by omega⟩ ⟨by omega, by omega⟩) ?_
        have e : sdT v q = ((sdT v q).toNat : Int) := by omega
        rw [e]
        refine g_callE rfl (c_isFlat (k := (sdT v q).toNat) (by omega) (by rw [hfe]; omega)) ?_
        refine g_ic_eq rfl (by omega) (by omega) (fun g => ?_) (fun g => ?_)
        · exact k1 g
        · exact k2 g
      have pre : ∀ (o5 : Option zV) (Q : Option zV → zI → Prop), (nb w n p q = -1 → Go L (d + 2) k_X0_fitsFrame 28 [some (vR 75), some (vR 37), some (vI p), some (vI v), some (vI q), o5] [vI 1] I Q) → (¬ nb w n p q = -1 → Go L (d + 2) k_X0_fitsFrame 28 [some (vR 75), some (vR 37), some (vI p), some (vI v), some (vI q), o5] [vI 0] I Q) → Go L (d + 2) k_X0_fitsFrame 3 [some (vR 75), some (vR 37), some (vI p), some (vI v), some (vI q), o5] [] I Q := by
        intro o5 Q k1 k2
        refine g_l 5 rfl rfl ?_
        refine g_p 6 rfl rfl ?_
        refine g_ic_ge rfl (by omega) (by omega) (fun g => ?_) (fun g => ?_)
        · exact absurd g (by omega)
        · refine g_l 10 rfl rfl ?_
          refine g_fr rfl rfl ⟨⟨by decide, by omega, by decide⟩, by decide⟩ rfl ?_
          refine g_l 14 rfl rfl ?_
          refine g_l 16 rfl rfl ?_
          refine g_callE rfl (c_neighborOf (p := (p : Int)) (q := (q : Int)) IsR77 hro ⟨by omega, by omega⟩ ⟨by omega, by omega⟩) ?_
          rw [h7, h5.1]
          refine g_p 20 rfl rfl ?_
          refine g_ic_ne rfl (by omega) (by omega) (fun g2 => ?_) (fun g2 => ?_)
          · refine g_p 28 rfl rfl ?_
            exact k2 g2
          · refine g_p 24 rfl rfl ?_
            refine g_goto rfl ?_
            exact k1 (by omega)
      by_cases hn : nb w n p q = -1 ↔ f (sdT v q).toNat = 0
      · refine ⟨b, hb, ?_, fun o5 => pre o5 _ (fun g => cmp 1 _ _ (Or.inr rfl) (fun _ => ?_) (fun z => ?_)) (fun g => cmp 0 _ _ (Or.inl rfl) (fun _ => ?_) (fun z => ?_))⟩
        · rw [hbi]
          exact ⟨fun z => ⟨hn, z⟩, fun z => z.2⟩
        · refine g_l 50 rfl rfl ?_
          refine g_goto rfl ?_
          exact hgo _
        · exact absurd (b2i_t (by rw [hfe]; exact hn.mp g)) z
        · refine g_l 50 rfl rfl ?_
          refine g_goto rfl ?_
          exact hgo _
        · exact absurd (b2i_f (by rw [hfe]; exact fun y => g (hn.mpr y))) z
      · refine ⟨0, Or.inl rfl, ⟨fun z => absurd z (by decide), fun z => absurd z.1 hn⟩, fun o5 => pre o5 _ (fun g => cmp 1 _ _ (Or.inr rfl) (fun z => ?_) (fun _ => ?_)) (fun g => cmp 0 _ _ (Or.inl rfl) (fun z => ?_) (fun _ => ?_))⟩
        · have z2 := b2i_1 (show ¬ b2i (I 39 (sdT v q).toNat = 0) = 0 by omega)
          rw [hfe] at z2
          exact absurd ⟨fun _ => z2, fun _ => g⟩ hn
        · refine g_p 46 rfl rfl ?_
          exact g_retb rfl rfl (Or.inl rfl) ⟨rfl, rfl⟩
        · have z2 := b2i_0 z.symm
          rw [hfe] at z2
          exact absurd ⟨fun y => absurd y g, fun y => absurd y z2⟩ hn
        · refine g_p 46 rfl rfl ?_
          exact g_retb rfl rfl (Or.inl rfl) ⟨rfl, rfl⟩
  obtain ⟨b, hb, hbi, hgo⟩ := key 4 0 rfl
  refine ⟨b, hb, hbi, ?_⟩
  show Go L (d + 2) k_X0_fitsFrame 0 [some (vR 75), some (vR 37), some (vI p), some (vI v), none, none] [] I _
  refine g_p 1 rfl rfl ?_
  refine g_l 3 rfl rfl ?_
  exact hgo none
def PB (n : Nat) (I : zI) (B : Int × (Nat → Int)) : Option zV → zI → Prop := fun r J => r = none ∧ J 75 5 = B.1 ∧ (∀ j, j < n → J 80 j = B.2 j) ∧ FrF I J
end AR
