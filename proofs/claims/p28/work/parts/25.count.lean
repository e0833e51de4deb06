/-! Sides: counts of pairs, groups, edges -/
def cpF (M : Nat → Int) : Nat → Nat → Int
  | 0, _ => 0
  | m + 1, s => (if lowP M s then 1 else 0) + cpF M m (s + 1)
def fpF (M : Nat → Int) (i : Int) : Nat → Nat → Int → Int
  | 0, _, _ => -5
  | m + 1, s, p => if lowP M s then (if p = i then 32 * (s : Int) + M s else fpF M i m (s + 1) (p + 1)) else fpF M i m (s + 1) p
def cgF (g : Nat → Int) : Nat → Nat → Int
  | 0, _ => 0
  | m + 1, p => (if g p = p then 1 else 0) + cgF g m (p + 1)
/-- an edge read backwards: the first k colours -/
def rvF (e : Int) : Nat → Int
  | 0 => 0
  | k + 1 => 4 * rvF e k + col e k
def rv (e : Int) : Int := rvF e 4
/-- whether one of the sides from o on, up to s, has the edge -/
def sbF (f : Nat → Int) (w : Int) (s : Nat) : Nat → Nat → Prop
  | 0, _ => False
  | m + 1, o => (f o = f s ∨ w = 1 ∧ f o = rv (f s)) ∨ sbF f w s m (o + 1)
theorem rvF_rng (e : Int) : 0 ≤ rvF e 0 ∧ rvF e 0 ≤ 0 ∧ 0 ≤ rvF e 1 ∧ rvF e 1 ≤ 3 ∧ 0 ≤ rvF e 2 ∧ rvF e 2 ≤ 15 ∧ 0 ≤ rvF e 3 ∧ rvF e 3 ≤ 63 ∧ 0 ≤ rvF e 4 ∧ rvF e 4 ≤ 255 := by
  have h0 := col_rng e ((0 : Nat) : Int)
  have h1 := col_rng e ((1 : Nat) : Int)
  have h2 := col_rng e ((2 : Nat) : Int)
  have h3 := col_rng e ((3 : Nat) : Int)
  have e0 : rvF e 0 = 0 := rfl
  have e1 : rvF e 1 = 4 * rvF e 0 + col e ((0 : Nat) : Int) := rfl
  have e2 : rvF e 2 = 4 * rvF e 1 + col e ((1 : Nat) : Int) := rfl
  have e3 : rvF e 3 = 4 * rvF e 2 + col e ((2 : Nat) : Int) := rfl
  have e4 : rvF e 4 = 4 * rvF e 3 + col e ((3 : Nat) : Int) := rfl
  omega
section CO
variable {L d : Nat} {I : zI}
theorem c_countPairs {n : Nat} {M : Nat → Int} (hn : n ≤ 8) (h0 : I 37 0 = n) (hM : ∀ k, k < 4 * n → I 73 k = M k) (hO : MtOK M (4 * n)) : Ev L (d + 1) k_X4_countPairs [vR 37] I (some (vI (cpF M (4 * n) 0))) I := by
  have key : ∀ (m s : Nat) (x : Int), s + m = 4 * n → Go L (d + 1) k_X4_countPairs 4 [some (vR 37), some (vI x), some (vI s)] [] I (fun r J => r = some (vI (x + cpF M m s)) ∧ J = I) := by
    intro m
    induction m with
    | zero =>
      intro s x hs
      refine g_l 5 rfl rfl ?_
      refine g_p 6 rfl rfl ?_
      refine g_l 7 rfl rfl ?_
      refine g_fi rfl rfl ⟨⟨by decide, by omega, by decide⟩, by decide⟩ ?_
      refine g_p 11 rfl rfl ?_
      rw [h0]
      refine g_ic_ge rfl (by omega) (by omega) (fun h => ?_) (fun h => ?_)
      · refine g_l 32 rfl rfl ?_
        exact g_ret rfl rfl ⟨by simp [cpF], rfl⟩
      · exact absurd h (by omega)
    | succ m ih =>
      intro s x hs
      have hb := b2i_r (lowP M s)
      refine g_l 5 rfl rfl ?_
      refine g_p 6 rfl rfl ?_
      refine g_l 7 rfl rfl ?_
      refine g_fi rfl rfl ⟨⟨by decide, by omega, by decide⟩, by decide⟩ ?_
      refine g_p 11 rfl rfl ?_
      rw [h0]
      refine g_ic_ge rfl (by omega) (by omega) (fun h => ?_) (fun h => ?_)
      · exact absurd h (by omega)
      · refine g_l 15 rfl rfl ?_
        refine g_l 16 rfl rfl ?_
        refine g_callE rfl (c_lower hn (by omega) hM hO) ?_
        refine g_if_eq rfl (by omega) (fun h1 => ?_) (fun h1 => ?_)
        · refine g_l 28 rfl rfl ?_
          refine g_goto rfl ?_
          have e : x + cpF M (m + 1) s = x + cpF M m (s + 1) := by
            rw [cpF, if_neg (b2i_0 h1)]
            omega
          rw [e]
          exact ih (s + 1) x (by omega)
        · refine g_l 25 rfl rfl ?_
          refine g_l 28 rfl rfl ?_
          refine g_goto rfl ?_
          have e : x + cpF M (m + 1) s = x + 1 + cpF M m (s + 1) := by
            rw [cpF, if_pos (b2i_1 h1)]
            omega
          rw [e]
          exact ih (s + 1) (x + 1) (by omega)
  show Go L (d + 1) k_X4_countPairs 0 [some (vR 37), none, none] [] I _
  refine g_p 1 rfl rfl ?_
  refine g_l 2 rfl rfl ?_
  refine g_p 3 rfl rfl ?_
  refine g_l 4 rfl rfl ?_
  have h := key (4 * n) 0 0 (by omega)
  rw [Int.zero_add] at h
  exact h
theorem c_findPair {n : Nat} {M : Nat → Int} {i : Int} (hn : n ≤ 8) (h0 : I 37 0 = n) (hM : ∀ k, k < 4 * n → I 73 k = M k) (hO : MtOK M (4 * n)) (hi : rng i) : Ev L (d + 1) k_X4_findPair [vR 37, vI i] I (some (vI (fpF M i (4 * n) 0 0))) I := by
  have key : ∀ (m s : Nat) (x : Int), s + m = 4 * n → 0 ≤ x → x ≤ s → Go L (d + 1) k_X4_findPair 4 [some (vR 37), some (vI i), some (vI x), some (vI s)] [] I (fun r J => r = some (vI (fpF M i m s x)) ∧ J = I) := by
    intro m
    induction m with
    | zero =>
      intro s x hs hx0 hx
      refine g_l 5 rfl rfl ?_
      refine g_p 6 rfl rfl ?_
      refine g_l 7 rfl rfl ?_
      refine g_fi rfl rfl ⟨⟨by decide, by omega, by decide⟩, by decide⟩ ?_
      refine g_p 11 rfl rfl ?_
      rw [h0]
      refine g_ic_ge rfl (by omega) (by omega) (fun h => ?_) (fun h => ?_)
      · refine g_p 50 rfl rfl ?_
        exact g_ret rfl rfl ⟨rfl, rfl⟩
      · exact absurd h (by omega)
    | succ m ih =>
      intro s x hs hx0 hx
      have hb := b2i_r (lowP M s)
      refine g_l 5 rfl rfl ?_
      refine g_p 6 rfl rfl ?_
      refine g_l 7 rfl rfl ?_
      refine g_fi rfl rfl ⟨⟨by decide, by omega, by decide⟩, by decide⟩ ?_
      refine g_p 11 rfl rfl ?_
      rw [h0]
      refine g_ic_ge rfl (by omega) (by omega) (fun h => ?_) (fun h => ?_)
      · exact absurd h (by omega)
      · refine g_l 15 rfl rfl ?_
        refine g_l 16 rfl rfl ?_
        refine g_callE rfl (c_lower hn (by omega) hM hO) ?_
        refine g_if_eq rfl (by omega) (fun h1 => ?_) (fun h1 => ?_)
        · refine g_l 45 rfl rfl ?_
          refine g_goto rfl ?_
          rw [fpF, if_neg (b2i_0 h1)]
          exact ih (s + 1) x (by omega) hx0 (by omega)
        · refine g_l 23 rfl rfl ?_
          refine g_l 24 rfl rfl ?_
          refine g_ic_ne rfl (by omega) (by omega) (fun h2 => ?_) (fun h2 => ?_)
          · refine g_l 42 rfl rfl ?_
            refine g_l 45 rfl rfl ?_
            refine g_goto rfl ?_
            rw [fpF, if_pos (b2i_1 h1), if_neg h2]
            exact ih (s + 1) (x + 1) (by omega) (by omega) (by omega)
          · refine g_p 29 rfl rfl ?_
            refine g_l 30 rfl rfl ?_
            refine g_p 31 rfl rfl ?_
            refine g_l 32 rfl rfl ?_
            refine g_fr rfl rfl ⟨⟨by decide, by omega, by decide⟩, by decide⟩ rfl ?_
            refine g_l 36 rfl rfl ?_
            refine g_ia s rfl rfl rfl (by omega) ?_
            rw [hM s (by omega)]
            refine g_p 38 rfl rfl ?_
            refine g_ret rfl rfl ⟨?_, rfl⟩
            rw [fpF, if_pos (b2i_1 h1), if_pos (by omega)]
  show Go L (d + 1) k_X4_findPair 0 [some (vR 37), some (vI i), none, none] [] I _
  refine g_p 1 rfl rfl ?_
  refine g_l 2 rfl rfl ?_
  refine g_p 3 rfl rfl ?_
  refine g_l 4 rfl rfl ?_
  exact key (4 * n) 0 0 (by omega) (by omega) (by omega)
theorem c_countGroups {n : Nat} {g : Nat → Int} (hn : n ≤ 8) (h0 : I 37 0 = n) (hg : ∀ p, p < n → I 74 p = g p) (hr : ∀ p, p < n → rng (g p)) : Ev L d k_X4_countGroups [vR 37] I (some (vI (cgF g n 0))) I := by
  have key : ∀ (m p : Nat) (x : Int), p + m = n → Go L d k_X4_countGroups 4 [some (vR 37), some (vI x), some (vI p)] [] I (fun r J => r = some (vI (x + cgF g m p)) ∧ J = I) := by
    intro m
    induction m with
    | zero =>
      intro p x hp
      refine g_l 5 rfl rfl ?_
      refine g_l 6 rfl rfl ?_
      refine g_fi rfl rfl ⟨⟨by decide, by omega, by decide⟩, by decide⟩ ?_
      rw [h0]
      refine g_ic_ge rfl (by omega) (by omega) (fun h => ?_) (fun h => ?_)
      · refine g_l 32 rfl rfl ?_
        exact g_ret rfl rfl ⟨by simp [cgF], rfl⟩
      · exact absurd h (by omega)
    | succ m ih =>
      intro p x hp
      have h2 := hr p (by omega)
      refine g_l 5 rfl rfl ?_
      refine g_l 6 rfl rfl ?_
      refine g_fi rfl rfl ⟨⟨by decide, by omega, by decide⟩, by decide⟩ ?_
      rw [h0]
      refine g_ic_ge rfl (by omega) (by omega) (fun h => ?_) (fun h => ?_)
      · exact absurd h (by omega)
      · refine g_l 13 rfl rfl ?_
        refine g_fr rfl rfl ⟨⟨by decide, by omega, by decide⟩, by decide⟩ rfl ?_
        refine g_l 17 rfl rfl ?_
        refine g_ia p rfl rfl rfl (by omega) ?_
        rw [hg p (by omega)]
        refine g_l 19 rfl rfl ?_
        refine g_ic_ne rfl (by omega) (by omega) (fun h1 => ?_) (fun h1 => ?_)
        · refine g_l 28 rfl rfl ?_
          refine g_goto rfl ?_
          have e : x + cgF g (m + 1) p = x + cgF g m (p + 1) := by
            rw [cgF, if_neg h1]
            omega
          rw [e]
          exact ih (p + 1) x (by omega)
        · refine g_l 25 rfl rfl ?_
          refine g_l 28 rfl rfl ?_
          refine g_goto rfl ?_
          have e : x + cgF g (m + 1) p = x + 1 + cgF g m (p + 1) := by
            rw [cgF, if_pos (by omega)]
            omega
          rw [e]
          exact ih (p + 1) (x + 1) (by omega)
  show Go L d k_X4_countGroups 0 [some (vR 37), none, none] [] I _
  refine g_p 1 rfl rfl ?_
  refine g_l 2 rfl rfl ?_
  refine g_p 3 rfl rfl ?_
  refine g_l 4 rfl rfl ?_
  have h := key n 0 0 (by omega)
  rw [Int.zero_add] at h
  exact h
theorem c_reversed {e : Int} : Ev L (d + 1) k_X4_reversedColors [vI e] I (some (vI (rv e))) I := by
  have key : ∀ (m k : Nat), k + m = 4 → Go L (d + 1) k_X4_reversedColors 4 [some (vI e), some (vI (rvF e k)), some (vI k)] [] I (fun r J => r = some (vI (rv e)) ∧ J = I) := by
    intro m
    induction m with
    | zero =>
      intro k hk
      refine g_l 5 rfl rfl ?_
      refine g_p 6 rfl rfl ?_
      refine g_ic_ge rfl (by omega) (by omega) (fun h => ?_) (fun h => ?_)
      · refine g_l 26 rfl rfl ?_
        have e4 : k = 4 := by omega
        subst e4
        exact g_ret rfl rfl ⟨rfl, rfl⟩
      · exact absurd h (by omega)
    | succ m ih =>
      intro k hk
      refine g_l 5 rfl rfl ?_
      refine g_p 6 rfl rfl ?_
      refine g_ic_ge rfl (by omega) (by omega) (fun h => ?_) (fun h => ?_)
      · exact absurd h (by omega)
      · refine g_p 10 rfl rfl ?_
        refine g_l 11 rfl rfl ?_
        refine g_p 12 rfl rfl ?_
        refine g_l 13 rfl rfl ?_
        refine g_l 14 rfl rfl ?_
        refine g_callE rfl c_colorIn ?_
        refine g_p 18 rfl rfl ?_
        refine g_l 19 rfl rfl ?_
        refine g_l 22 rfl rfl ?_
        refine g_goto rfl ?_
        exact ih (k + 1) (by omega)
  show Go L (d + 1) k_X4_reversedColors 0 [some (vI e), none, none] [] I _
  refine g_p 1 rfl rfl ?_
  refine g_l 2 rfl rfl ?_
  refine g_p 3 rfl rfl ?_
  refine g_l 4 rfl rfl ?_
  exact key 4 0 rfl
theorem c_standsBefore {n s : Nat} {f : Nat → Int} {w : Int} (hn : n ≤ 8) (hs : s < 4 * n) (hf : ∀ k, k < 4 * n → I 39 k = f k) (hfr : ∀ k, 0 ≤ f k ∧ f k ≤ 255) (hw : w = 0 ∨ w = 1) : ∃ b : Int, (b = 0 ∨ b = 1) ∧ (b = 1 ↔ sbF f w s s 0) ∧ Ev L (d + 2) k_X4_standsBefore [vR 37, vI s, vI w] I (some (vI b)) I := by
  have hrv := rvF_rng (f s)
  have hrv : 0 ≤ rv (f s) ∧ rv (f s) ≤ 255 := by unfold rv; omega
  have hfs := hfr s
  have key : ∀ (m o : Nat), o + m = s → ∃ b : Int, (b = 0 ∨ b = 1) ∧ (b = 1 ↔ sbF f w s m o) ∧ Go L (d + 2) k_X4_standsBefore 16 [some (vR 37), some (vI s), some (vI w), some (vI (f s)), some (vI (rv (f s))), some (vI o)] [] I (fun r J => r = some (vI b) ∧ J = I) := by
    intro m
    induction m with
    | zero =>
      intro o ho
      refine ⟨0, Or.inl rfl, ⟨fun h => absurd h (by decide), fun h => h.elim⟩, ?_⟩
      refine g_l 18 rfl rfl ?_
      refine g_l 19 rfl rfl ?_
      refine g_ic_ge rfl (by omega) (by omega) (fun h => ?_) (fun h => ?_)
      · refine g_p 58 rfl rfl ?_
        exact g_retb rfl rfl (Or.inl rfl) ⟨rfl, rfl⟩
      · exact absurd h (by omega)
    | succ m ih =>
      intro o ho
      have hfo := hfr o
      obtain ⟨b, hb, hbi, hgo⟩ := ih (o + 1) (by omega)
      have start : ∀ (Q : Option zV → zI → Prop), ((f o = f s) → Go L (d + 2) k_X4_standsBefore 49 [some (vR 37), some (vI s), some (vI w), some (vI (f s)), some (vI (rv (f s))), some (vI o)] [] I Q) → (¬ f o = f s → Go L (d + 2) k_X4_standsBefore 33 [some (vR 37), some (vI s), some (vI w), some (vI (f s)), some (vI (rv (f s))), some (vI o)] [] I Q) → Go L (d + 2) k_X4_standsBefore 16 [some (vR 37), some (vI s), some (vI w), some (vI (f s)), some (vI (rv (f s))), some (vI o)] [] I Q := by
        intro Q k1 k2
        refine g_l 18 rfl rfl ?_
        refine g_l 19 rfl rfl ?_
        refine g_ic_ge rfl (by omega) (by omega) (fun h => ?_) (fun h => ?_)
        · exact absurd h (by omega)
        · refine g_l 23 rfl rfl ?_
          refine g_fr rfl rfl ⟨⟨by decide, by omega, by decide⟩, by decide⟩ rfl ?_
          refine g_l 28 rfl rfl ?_
          refine g_ia o rfl rfl rfl (by omega) ?_
          rw [hf o (by omega)]
          refine g_l 30 rfl rfl ?_
          refine g_ic_eq rfl (by omega) (by omega) (fun h1 => ?_) (fun h1 => ?_)
          · exact k1 h1
          · exact k2 h1
      by_cases h1 : f o = f s
      · refine ⟨1, Or.inr rfl, ⟨fun _ => Or.inl (Or.inl h1), fun _ => rfl⟩, start _ (fun _ => ?_) (fun h => absurd h1 h)⟩
        refine g_p 50 rfl rfl ?_
        exact g_retb rfl rfl (Or.inr rfl) ⟨rfl, rfl⟩
      · by_cases h2 : w = 1 ∧ f o = rv (f s)
        · refine ⟨1, Or.inr rfl, ⟨fun _ => Or.inl (Or.inr h2), fun _ => rfl⟩, start _ (fun h => absurd h h1) (fun _ => ?_)⟩
          refine g_l 34 rfl rfl ?_
          refine g_if_eq rfl (by omega) (fun h3 => ?_) (fun h3 => ?_)
          · exact absurd h3 (by omega)
          · refine g_l 38 rfl rfl ?_
            refine g_fr rfl rfl ⟨⟨by decide, by omega, by decide⟩, by decide⟩ rfl ?_
            refine g_l 43 rfl rfl ?_
            refine g_ia o rfl rfl rfl (by omega) ?_
            rw [hf o (by omega)]
            refine g_l 46 rfl rfl ?_
            refine g_ic_ne rfl (by omega) (by omega) (fun h4 => ?_) (fun h4 => ?_)
            · exact absurd h2.2 h4
            · refine g_p 50 rfl rfl ?_
              exact g_retb rfl rfl (Or.inr rfl) ⟨rfl, rfl⟩
        · refine ⟨b, hb, ?_, start _ (fun h => absurd h h1) (fun _ => ?_)⟩
          · rw [hbi]
            show _ ↔ (_ ∨ _) ∨ sbF f w s m (o + 1)
            constructor
            · exact fun h => Or.inr h
            · rintro ((h | h) | h)
              · exact absurd h h1
              · exact absurd h h2
              · exact h
          · refine g_l 34 rfl rfl ?_
            refine g_if_eq rfl (by omega) (fun h3 => ?_) (fun h3 => ?_)
            · refine g_l 54 rfl rfl ?_
              refine g_goto rfl ?_
              exact hgo
            · refine g_l 38 rfl rfl ?_
              refine g_fr rfl rfl ⟨⟨by decide, by omega, by decide⟩, by decide⟩ rfl ?_
              refine g_l 43 rfl rfl ?_
              refine g_ia o rfl rfl rfl (by omega) ?_
              rw [hf o (by omega)]
              refine g_l 46 rfl rfl ?_
              refine g_ic_ne rfl (by omega) (by omega) (fun h4 => ?_) (fun h4 => ?_)
              · refine g_l 54 rfl rfl ?_
                refine g_goto rfl ?_
                exact hgo
              · exact absurd ⟨by omega, by omega⟩ h2
  obtain ⟨b, hb, hbi, hgo⟩ := key s 0 (by omega)
  refine ⟨b, hb, hbi, ?_⟩
  show Go L (d + 2) k_X4_standsBefore 0 [some (vR 37), some (vI s), some (vI w), none, none, none] [] I _
  refine g_l 1 rfl rfl ?_
  refine g_fr rfl rfl ⟨⟨by decide, by omega, by decide⟩, by decide⟩ rfl ?_
  refine g_l 5 rfl rfl ?_
  refine g_ia s rfl rfl rfl (by omega) ?_
  rw [hf s hs]
  refine g_l 7 rfl rfl ?_
  refine g_l 8 rfl rfl ?_
  refine g_callE rfl c_reversed ?_
  refine g_l 13 rfl rfl ?_
  refine g_p 14 rfl rfl ?_
  refine g_l 16 rfl rfl ?_
  exact hgo
end CO
