/-! THE STANDING CELLS: the shapes behind the constructors do not change any more; runs over them, and their steps -/
abbrev zI : Type := Nat → Nat → Int
def Sh1 : List (Nat × Nat) := [(7, 10), (5, 3), (100, 8), (3, 3), (100, 8), (5, 3), (100, 8), (3, 3), (100, 8), (1, 3), (104, 6), (5, 3), (100, 8), (3, 3), (100, 8), (5, 3), (100, 8), (3, 3), (100, 8), (5, 3), (100, 8), (3, 3), (100, 8), (5, 3), (100, 8), (3, 3), (100, 8), (5, 3), (100, 8), (3, 3), (100, 8), (5, 3), (100, 8), (3, 3), (100, 8), (4, 6), (100, 8), (100, 32), (103, 32), (100, 32), (100, 32), (100, 32), (100, 32), (100, 32), (100, 32), (100, 32), (100, 32), (100, 32), (100, 32), (100, 32), (100, 32), (100, 32), (100, 32), (100, 32), (100, 32), (100, 32), (100, 32), (100, 32), (100, 32), (100, 32), (100, 32), (100, 32), (100, 32), (100, 32), (100, 32), (100, 32), (100, 32), (100, 32), (100, 32), (100, 32), (100, 32), (100, 32), (100, 8), (0, 6), (102, 8), (3, 3), (100, 8), (3, 3), (100, 8), (2, 2), (100, 100), (6, 6), (101, 150), (100, 50), (103, 50), (100, 4), (100, 4), (100, 4), (100, 4), (100, 4), (100, 4), (100, 4), (100, 4), (100, 4), (100, 4), (100, 4), (100, 4), (100, 4), (100, 4), (100, 4), (100, 4), (100, 4), (100, 4), (100, 4), (100, 4), (100, 4), (100, 4), (100, 4), (100, 4), (100, 4), (100, 4), (100, 4), (100, 4), (100, 4), (100, 4), (100, 4), (100, 4), (100, 4), (100, 4), (100, 4), (100, 4), (100, 4), (100, 4), (100, 4), (100, 4), (100, 4), (100, 4), (100, 4), (100, 4), (100, 4), (100, 4), (100, 4), (100, 4), (100, 4), (100, 4)]
/-- L tells the script's length (its remainder by 512) and how many rows of 4 the law has made by now (its quotient) -/
def Sh0 (L : Nat) : List (Nat × Nat) := (100, 16) :: (100, L % 512) :: (7, 10) :: (5, 3) :: (100, 8) :: (3, 3) :: (100, 8) :: (5, 3) :: (100, 8) :: (3, 3) :: (100, 8) :: (1, 3) :: (104, 6) :: (5, 3) :: (100, 8) :: (3, 3) :: (100, 8) :: (5, 3) :: (100, 8) :: (3, 3) :: (100, 8) :: (5, 3) :: (100, 8) :: (3, 3) :: (100, 8) :: (5, 3) :: (100, 8) :: (3, 3) :: (100, 8) :: (5, 3) :: (100, 8) :: (3, 3) :: (100, 8) :: (5, 3) :: (100, 8) :: (3, 3) :: (100, 8) :: (4, 6) :: (100, 8) :: (100, 32) :: (103, 32) :: (100, 32) :: (100, 32) :: (100, 32) :: (100, 32) :: (100, 32) :: (100, 32) :: (100, 32) :: (100, 32) :: (100, 32) :: (100, 32) :: (100, 32) :: (100, 32) :: (100, 32) :: (100, 32) :: (100, 32) :: (100, 32) :: (100, 32) :: (100, 32) :: (100, 32) :: (100, 32) :: (100, 32) :: (100, 32) :: (100, 32) :: (100, 32) :: (100, 32) :: (100, 32) :: (100, 32) :: (100, 32) :: (100, 32) :: (100, 32) :: (100, 32) :: (100, 32) :: (100, 32) :: (100, 8) :: (0, 6) :: (102, 8) :: (3, 3) :: (100, 8) :: (3, 3) :: (100, 8) :: (2, 2) :: (100, 100) :: (6, 6) :: (101, 150) :: (100, 50) :: (103, 50) :: (100, 4) :: (100, 4) :: (100, 4) :: (100, 4) :: (100, 4) :: (100, 4) :: (100, 4) :: (100, 4) :: (100, 4) :: (100, 4) :: (100, 4) :: (100, 4) :: (100, 4) :: (100, 4) :: (100, 4) :: (100, 4) :: (100, 4) :: (100, 4) :: (100, 4) :: (100, 4) :: (100, 4) :: (100, 4) :: (100, 4) :: (100, 4) :: (100, 4) :: (100, 4) :: (100, 4) :: (100, 4) :: (100, 4) :: (100, 4) :: (100, 4) :: (100, 4) :: (100, 4) :: (100, 4) :: (100, 4) :: (100, 4) :: (100, 4) :: (100, 4) :: (100, 4) :: (100, 4) :: (100, 4) :: (100, 4) :: (100, 4) :: (100, 4) :: (100, 4) :: (100, 4) :: (100, 4) :: (100, 4) :: (100, 4) :: (100, 4) :: List.replicate (L / 512) (100, 4)
set_option maxRecDepth 20000 in
theorem Sh0_cons (L : Nat) : Sh0 L = (100, 16) :: (100, L % 512) :: (Sh1 ++ List.replicate (L / 512) (100, 4)) := rfl
def R0 : List (List (Option Nat)) := [[], [], [some 3, some 7, some 11, some 37, some 75, some 81, some 83, none, none, none], [none, some 4, some 5], [], [none, none, some 6], [], [none, some 8, some 9], [], [none, none, some 10], [], [some 12, none, none], [some 13, some 17, some 21, some 25, some 29, some 33], [none, some 14, some 15], [], [none, none, some 16], [], [none, some 18, some 19], [], [none, none, some 20], [], [none, some 22, some 23], [], [none, none, some 24], [], [none, some 26, some 27], [], [none, none, some 28], [], [none, some 30, some 31], [], [none, none, some 32], [], [none, some 34, some 35], [], [none, none, some 36], [], [none, some 38, some 39, some 40, some 73, some 74], [], [], [some 41, some 42, some 43, some 44, some 45, some 46, some 47, some 48, some 49, some 50, some 51, some 52, some 53, some 54, some 55, some 56, some 57, some 58, some 59, some 60, some 61, some 62, some 63, some 64, some 65, some 66, some 67, some 68, some 69, some 70, some 71, some 72], [], [], [], [], [], [], [], [], [], [], [], [], [], [], [], [], [], [], [], [], [], [], [], [], [], [], [], [], [], [], [], [], [], [], [none, none, some 76, some 77, some 79, none], [], [none, none, some 78], [], [none, none, some 80], [], [none, some 82], [], [some 84, none, none, none, some 85, some 86], [], [], [some 87, some 88, some 89, some 90, some 91, some 92, some 93, some 94, some 95, some 96, some 97, some 98, some 99, some 100, some 101, some 102, some 103, some 104, some 105, some 106, some 107, some 108, some 109, some 110, some 111, some 112, some 113, some 114, some 115, some 116, some 117, some 118, some 119, some 120, some 121, some 122, some 123, some 124, some 125, some 126, some 127, some 128, some 129, some 130, some 131, some 132, some 133, some 134, some 135, some 136], [], [], [], [], [], [], [], [], [], [], [], [], [], [], [], [], [], [], [], [], [], [], [], [], [], [], [], [], [], [], [], [], [], [], [], [], [], [], [], [], [], [], [], [], [], [], [], [], [], []]
theorem R0_ext {n a : Nat} : (R0 ++ List.replicate n []).getD a [] = R0.getD a [] := by
  rw [List.getD_eq_getElem?_getD, List.getD_eq_getElem?_getD, List.getElem?_append]
  split
  · rfl
  · rename_i h
    rw [List.getElem?_replicate, List.getElem?_eq_none (l := R0) (Nat.not_lt.mp h)]
    split <;> rfl
def mS (L : Nat) (I : zI) : zMem := (Sh0 L, R0 ++ List.replicate (L / 512) [], I)
/-- from here the method comes to its end, and Q holds there -/
def Go (L d y pc : Nat) (lv : zLv) (st : List zV) (I : zI) (Q : Option zV → zI → Prop) : Prop := L ≤ 3072 → ∃ (n : Nat) (v : Option zV) (I' : zI), zx n d y pc lv st (mS L I) = some (v, mS L I') ∧ Q v I'
/-- a method's contract: from its entry -/
def Ct (L d y : Nat) (as : List zV) (I : zI) (Q : Option zV → zI → Prop) : Prop := Go L d y 0 (zent as (zM_ y).2.2.1) [] I Q
abbrev rng (x : Int) : Prop := -2147483648 ≤ x ∧ x ≤ 2147483647
abbrev rng64 (x : Int) : Prop := -9223372036854775808 ≤ x ∧ x ≤ 9223372036854775807
theorem n32_eq {x : Int} (h : rng x) : n32 x = x := by
  unfold n32
  exact Int32.toInt_ofInt_of_le (by omega) (by omega)
theorem n64_eq {x : Int} (h : rng64 x) : n64 x = x := by
  unfold n64
  exact Int64.toInt_ofInt_of_le (by omega) (by omega)
theorem Sh0_le {L a c n : Nat} (hL : L ≤ 3072) (h : (Sh0 L)[a]? = some (c, n)) : n ≤ 3072 := by
  have h1 : ∀ q ∈ Sh0 L, q.2 ≤ 3072 := by
    intro q hq
    rw [Sh0_cons, List.mem_cons, List.mem_cons, List.mem_append] at hq
    rcases hq with h | h | h | h
    · rw [h]
      show 16 ≤ 3072
      omega
    · rw [h]
      show L % 512 ≤ 3072
      omega
    · have h3 : Sh1.all (fun q => decide (q.2 ≤ 3072)) = true := by decide +kernel
      exact of_decide_eq_true (List.all_eq_true.mp h3 q h)
    · rw [List.eq_of_mem_replicate h]
      show 4 ≤ 3072
      omega
  exact h1 _ (List.mem_of_getElem? h)
theorem zx_fuel : ∀ (n d y pc : Nat) (lv : zLv) (st : List zV) (m : zMem) (r : Option zV × zMem), zx n d y pc lv st m = some r → ∀ k, zx (n + k) d y pc lv st m = some r
  | 0, _, _, _, _, _, _, _, h, _ => by cases h
  | n + 1, d, y, pc, lv, st, m, r, h, k => by
    rw [show n + 1 + k = (n + k) + 1 by omega]
    unfold zx at h ⊢
    split at h
    · cases h
    · rename_i q hq
      cases he : zend q.1 with
      | true =>
        rw [he, cond_true] at h
        rw [cond_true]
        exact h
      | false =>
        rw [he, cond_false] at h
        rw [cond_false]
        cases hc : zicall q with
        | true =>
          rw [hc, cond_true] at h
          rw [cond_true]
          split at h
          · cases h
          · split at h
            · rename_i hcond
              rw [if_pos hcond]
              split at h
              · rename_i v1 m1 h1
                rw [zx_fuel n _ _ _ _ _ _ _ h1 k]
                exact zx_fuel n _ _ _ _ _ _ _ h k
              · cases h
            · cases h
        | false =>
          rw [hc, cond_false] at h
          rw [cond_false]
          split at h
          · rename_i h1
            exact zx_fuel n _ _ _ _ _ _ _ h k
          · split at h
            · rename_i h1
              exact zx_fuel n _ _ _ _ _ _ _ h k
            · rename_i h1
              exact zx_fuel n _ _ _ _ _ _ _ h k
            · cases h
section GO
variable {L d y pc : Nat} {lv : zLv} {st : List zV} {I : zI} {Q : Option zV → zI → Prop}
theorem Go.lx {q : zP} {lv' : zLv} {st' : List zV} {n : Nat} (hf : zfn pc (zC y) = some q) (he : zend q.1 = false) (hc : zicall q = false) (h : zlx q.1 lv st = some (lv', st')) (hn : pc + q.2.1 = n) (k : Go L d y n lv' st' I Q) : Go L d y pc lv st I Q := fun hL => by
  obtain ⟨n, v, I', h1, h2⟩ := k hL
  refine ⟨n + 1, v, I', ?_, h2⟩
  unfold zx
  simp only [hf, he, hc, cond_false, h, hn]
  exact h1
theorem Go.px {q : zP} {st' : List zV} {I1 : zI} {n : Nat} (hf : zfn pc (zC y) = some q) (he : zend q.1 = false) (hc : zicall q = false) (h0 : zlx q.1 lv st = none) (h : L ≤ 3072 → zpx d pc q st (mS L I) = some (none, st', mS L I1)) (hn : pc + q.2.1 = n) (k : Go L d y n lv st' I1 Q) : Go L d y pc lv st I Q := fun hL => by
  obtain ⟨n, v, I', h1, h2⟩ := k hL
  refine ⟨n + 1, v, I', ?_, h2⟩
  unfold zx
  simp only [hf, he, hc, cond_false, h0, h hL, hn]
  exact h1
theorem Go.jx {q : zP} {st' : List zV} {j : Option Nat} {n : Nat} (hf : zfn pc (zC y) = some q) (he : zend q.1 = false) (hc : zicall q = false) (h0 : zlx q.1 lv st = none) (h : L ≤ 3072 → zpx d pc q st (mS L I) = some (j, st', mS L I)) (hn : j.getD (pc + q.2.1) = n) (k : Go L d y n lv st' I Q) : Go L d y pc lv st I Q := fun hL => by
  obtain ⟨n, v, I', h1, h2⟩ := k hL
  refine ⟨n + 1, v, I', ?_, h2⟩
  unfold zx
  simp only [hf, he, hc, cond_false, h0, h hL]
  cases j with
  | none =>
    have hn : pc + q.2.1 = _ := hn
    simp only [hn]
    exact h1
  | some t =>
    have hn : t = _ := hn
    simp only [hn]
    exact h1
/-- loads, stores, iinc: all by computing -/
theorem g_l {q : zP} {lv' : zLv} {st' : List zV} (n : Nat) (hf : zfn pc (zC y) = some q) (h : zlx q.1 lv st = some (lv', st')) (k : Go L d y n lv' st' I Q) (he : zend q.1 = false := by rfl) (hc : zicall q = false := by rfl) (hn : pc + q.2.1 = n := by rfl) : Go L d y pc lv st I Q := Go.lx hf he hc h hn k
/-- what computes on the stack alone -/
theorem g_p {q : zP} {st' : List zV} (n : Nat) (hf : zfn pc (zC y) = some q) (h : zpx d pc q st (mS L I) = some (none, st', mS L I)) (k : Go L d y n lv st' I Q) (h0 : zlx q.1 lv st = none := by rfl) (he : zend q.1 = false := by rfl) (hc : zicall q = false := by rfl) (hn : pc + q.2.1 = n := by rfl) : Go L d y pc lv st I Q := Go.px hf he hc h0 (fun _ => h) hn k
theorem g_goto {o : Int} {len A B K : Nat} {Z : Int} (hf : zfn pc (zC y) = some (.goto o, len, A, B, K, Z)) (k : Go L d y A lv st I Q) : Go L d y pc lv st I Q := Go.jx hf rfl rfl rfl (fun _ => rfl) rfl k
theorem g_ic_eq {o : Int} {len A B K : Nat} {Z : Int} {a b : Int} (hf : zfn pc (zC y) = some (.if_icmp .eq o, len, A, B, K, Z)) (ha : rng a) (hb : rng b) (kt : a = b → Go L d y A lv st I Q) (kf : ¬ (a = b) → Go L d y (pc + len) lv st I Q) : Go L d y pc lv (vI b :: vI a :: st) I Q := by
  refine Go.jx (n := if a = b then A else pc + len) hf rfl rfl rfl (fun _ => rfl) ?_ ?_
  · rw [n32_eq ha, n32_eq hb]
    by_cases h : a = b <;> simp [zcmp, h, zpA]
  · split
    · rename_i h
      exact kt h
    · rename_i h
      exact kf h
theorem g_if_eq {o : Int} {len A B K : Nat} {Z : Int} {a : Int} (hf : zfn pc (zC y) = some (.ifCond .eq o, len, A, B, K, Z)) (ha : rng a) (kt : a = 0 → Go L d y A lv st I Q) (kf : ¬ (a = 0) → Go L d y (pc + len) lv st I Q) : Go L d y pc lv (vI a :: st) I Q := by
  refine Go.jx (n := if a = 0 then A else pc + len) hf rfl rfl rfl (fun _ => rfl) ?_ ?_
  · rw [n32_eq ha]
    by_cases h : a = 0 <;> simp [zcmp, h, zpA]
  · split
    · rename_i h
      exact kt h
    · rename_i h
      exact kf h
theorem g_ic_ne {o : Int} {len A B K : Nat} {Z : Int} {a b : Int} (hf : zfn pc (zC y) = some (.if_icmp .ne o, len, A, B, K, Z)) (ha : rng a) (hb : rng b) (kt : ¬ a = b → Go L d y A lv st I Q) (kf : ¬ (¬ a = b) → Go L d y (pc + len) lv st I Q) : Go L d y pc lv (vI b :: vI a :: st) I Q := by
  refine Go.jx (n := if ¬ a = b then A else pc + len) hf rfl rfl rfl (fun _ => rfl) ?_ ?_
  · rw [n32_eq ha, n32_eq hb]
    by_cases h : ¬ a = b <;> simp [zcmp, h, zpA]
  · split
    · rename_i h
      exact kt h
    · rename_i h
      exact kf h
theorem g_if_ne {o : Int} {len A B K : Nat} {Z : Int} {a : Int} (hf : zfn pc (zC y) = some (.ifCond .ne o, len, A, B, K, Z)) (ha : rng a) (kt : ¬ a = 0 → Go L d y A lv st I Q) (kf : ¬ (¬ a = 0) → Go L d y (pc + len) lv st I Q) : Go L d y pc lv (vI a :: st) I Q := by
  refine Go.jx (n := if ¬ a = 0 then A else pc + len) hf rfl rfl rfl (fun _ => rfl) ?_ ?_
  · rw [n32_eq ha]
    by_cases h : ¬ a = 0 <;> simp [zcmp, h, zpA]
  · split
    · rename_i h
      exact kt h
    · rename_i h
      exact kf h
theorem g_ic_lt {o : Int} {len A B K : Nat} {Z : Int} {a b : Int} (hf : zfn pc (zC y) = some (.if_icmp .lt o, len, A, B, K, Z)) (ha : rng a) (hb : rng b) (kt : a < b → Go L d y A lv st I Q) (kf : ¬ (a < b) → Go L d y (pc + len) lv st I Q) : Go L d y pc lv (vI b :: vI a :: st) I Q := by
  refine Go.jx (n := if a < b then A else pc + len) hf rfl rfl rfl (fun _ => rfl) ?_ ?_
  · rw [n32_eq ha, n32_eq hb]
    by_cases h : a < b <;> simp [zcmp, h, zpA]
  · split
    · rename_i h
      exact kt h
    · rename_i h
      exact kf h
theorem g_if_lt {o : Int} {len A B K : Nat} {Z : Int} {a : Int} (hf : zfn pc (zC y) = some (.ifCond .lt o, len, A, B, K, Z)) (ha : rng a) (kt : a < 0 → Go L d y A lv st I Q) (kf : ¬ (a < 0) → Go L d y (pc + len) lv st I Q) : Go L d y pc lv (vI a :: st) I Q := by
  refine Go.jx (n := if a < 0 then A else pc + len) hf rfl rfl rfl (fun _ => rfl) ?_ ?_
  · rw [n32_eq ha]
    by_cases h : a < 0 <;> simp [zcmp, h, zpA]
  · split
    · rename_i h
      exact kt h
    · rename_i h
      exact kf h
theorem g_ic_ge {o : Int} {len A B K : Nat} {Z : Int} {a b : Int} (hf : zfn pc (zC y) = some (.if_icmp .ge o, len, A, B, K, Z)) (ha : rng a) (hb : rng b) (kt : b ≤ a → Go L d y A lv st I Q) (kf : ¬ (b ≤ a) → Go L d y (pc + len) lv st I Q) : Go L d y pc lv (vI b :: vI a :: st) I Q := by
  refine Go.jx (n := if b ≤ a then A else pc + len) hf rfl rfl rfl (fun _ => rfl) ?_ ?_
  · rw [n32_eq ha, n32_eq hb]
    by_cases h : b ≤ a <;> simp [zcmp, h, zpA]
  · split
    · rename_i h
      exact kt h
    · rename_i h
      exact kf h
theorem g_if_ge {o : Int} {len A B K : Nat} {Z : Int} {a : Int} (hf : zfn pc (zC y) = some (.ifCond .ge o, len, A, B, K, Z)) (ha : rng a) (kt : 0 ≤ a → Go L d y A lv st I Q) (kf : ¬ (0 ≤ a) → Go L d y (pc + len) lv st I Q) : Go L d y pc lv (vI a :: st) I Q := by
  refine Go.jx (n := if 0 ≤ a then A else pc + len) hf rfl rfl rfl (fun _ => rfl) ?_ ?_
  · rw [n32_eq ha]
    by_cases h : 0 ≤ a <;> simp [zcmp, h, zpA]
  · split
    · rename_i h
      exact kt h
    · rename_i h
      exact kf h
theorem g_ic_gt {o : Int} {len A B K : Nat} {Z : Int} {a b : Int} (hf : zfn pc (zC y) = some (.if_icmp .gt o, len, A, B, K, Z)) (ha : rng a) (hb : rng b) (kt : b < a → Go L d y A lv st I Q) (kf : ¬ (b < a) → Go L d y (pc + len) lv st I Q) : Go L d y pc lv (vI b :: vI a :: st) I Q := by
  refine Go.jx (n := if b < a then A else pc + len) hf rfl rfl rfl (fun _ => rfl) ?_ ?_
  · rw [n32_eq ha, n32_eq hb]
    by_cases h : b < a <;> simp [zcmp, h, zpA]
  · split
    · rename_i h
      exact kt h
    · rename_i h
      exact kf h
theorem g_if_gt {o : Int} {len A B K : Nat} {Z : Int} {a : Int} (hf : zfn pc (zC y) = some (.ifCond .gt o, len, A, B, K, Z)) (ha : rng a) (kt : 0 < a → Go L d y A lv st I Q) (kf : ¬ (0 < a) → Go L d y (pc + len) lv st I Q) : Go L d y pc lv (vI a :: st) I Q := by
  refine Go.jx (n := if 0 < a then A else pc + len) hf rfl rfl rfl (fun _ => rfl) ?_ ?_
  · rw [n32_eq ha]
    by_cases h : 0 < a <;> simp [zcmp, h, zpA]
  · split
    · rename_i h
      exact kt h
    · rename_i h
      exact kf h
theorem g_ic_le {o : Int} {len A B K : Nat} {Z : Int} {a b : Int} (hf : zfn pc (zC y) = some (.if_icmp .le o, len, A, B, K, Z)) (ha : rng a) (hb : rng b) (kt : a ≤ b → Go L d y A lv st I Q) (kf : ¬ (a ≤ b) → Go L d y (pc + len) lv st I Q) : Go L d y pc lv (vI b :: vI a :: st) I Q := by
  refine Go.jx (n := if a ≤ b then A else pc + len) hf rfl rfl rfl (fun _ => rfl) ?_ ?_
  · rw [n32_eq ha, n32_eq hb]
    by_cases h : a ≤ b <;> simp [zcmp, h, zpA]
  · split
    · rename_i h
      exact kt h
    · rename_i h
      exact kf h
theorem g_if_le {o : Int} {len A B K : Nat} {Z : Int} {a : Int} (hf : zfn pc (zC y) = some (.ifCond .le o, len, A, B, K, Z)) (ha : rng a) (kt : a ≤ 0 → Go L d y A lv st I Q) (kf : ¬ (a ≤ 0) → Go L d y (pc + len) lv st I Q) : Go L d y pc lv (vI a :: st) I Q := by
  refine Go.jx (n := if a ≤ 0 then A else pc + len) hf rfl rfl rfl (fun _ => rfl) ?_ ?_
  · rw [n32_eq ha]
    by_cases h : a ≤ 0 <;> simp [zcmp, h, zpA]
  · split
    · rename_i h
      exact kt h
    · rename_i h
      exact kf h
theorem g_fi {ix len A B K n : Nat} {Z : Int} {a : Nat} (hf : zfn pc (zC y) = some (.getfield ix, len, A, B, K, Z)) (hs : (Sh0 L)[a]? = some (A, n)) (h : (A < 8 ∧ 2 ≤ a ∧ B < n) ∧ (zty A B = 0 ∨ zty A B = 1)) (k : Go L d y (pc + len) lv (vI (I a B) :: st) I Q) : Go L d y pc lv (vR a :: st) I Q := by
  refine Go.px hf rfl rfl rfl (fun _ => ?_) rfl k
  simp only [zpx, mS, hs, zpA, zpB]
  rw [if_pos ⟨trivial, h.1⟩]
  rcases h.2 with e | e <;> rw [e] <;> rfl
theorem g_fl {ix len A B K n : Nat} {Z : Int} {a : Nat} (hf : zfn pc (zC y) = some (.getfield ix, len, A, B, K, Z)) (hs : (Sh0 L)[a]? = some (A, n)) (h : (A < 8 ∧ 2 ≤ a ∧ B < n) ∧ zty A B = 2) (k : Go L d y (pc + len) lv (vL (I a B) :: st) I Q) : Go L d y pc lv (vR a :: st) I Q := by
  refine Go.px hf rfl rfl rfl (fun _ => ?_) rfl k
  simp only [zpx, mS, hs, zpA, zpB]
  rw [if_pos ⟨trivial, h.1⟩, h.2]
  rfl
theorem g_fr {ix len A B K n : Nat} {Z : Int} {a b : Nat} (hf : zfn pc (zC y) = some (.getfield ix, len, A, B, K, Z)) (hs : (Sh0 L)[a]? = some (A, n)) (h : (A < 8 ∧ 2 ≤ a ∧ B < n) ∧ zty A B = 3) (hr : (R0.getD a []).getD B none = some b) (k : Go L d y (pc + len) lv (vR b :: st) I Q) : Go L d y pc lv (vR a :: st) I Q := by
  refine Go.px hf rfl rfl rfl (fun _ => ?_) rfl k
  simp only [zpx, mS, hs, zpA, zpB]
  rw [if_pos ⟨trivial, h.1⟩, h.2]
  simp only [R0_ext, hr]
theorem g_wi {ix len A B K n : Nat} {Z : Int} {a : Nat} {x : Int} (hf : zfn pc (zC y) = some (.putfield ix, len, A, B, K, Z)) (hs : (Sh0 L)[a]? = some (A, n)) (h : (A < 8 ∧ 2 ≤ a ∧ B < n) ∧ zty A B = 0) (k : Go L d y (pc + len) lv st (zup2 I a B x) Q) : Go L d y pc lv (vI x :: vR a :: st) I Q := by
  refine Go.px hf rfl rfl rfl (fun _ => ?_) rfl k
  simp only [zpx, mS, hs, zpA, zpB]
  rw [if_pos ⟨trivial, h.1⟩, h.2]
  rfl
theorem g_wb {ix len A B K n : Nat} {Z : Int} {a : Nat} {x : Int} (hf : zfn pc (zC y) = some (.putfield ix, len, A, B, K, Z)) (hs : (Sh0 L)[a]? = some (A, n)) (h : (A < 8 ∧ 2 ≤ a ∧ B < n) ∧ zty A B = 1) (hx : x = 0 ∨ x = 1) (k : Go L d y (pc + len) lv st (zup2 I a B x) Q) : Go L d y pc lv (vI x :: vR a :: st) I Q := by
  refine Go.px hf rfl rfl rfl (fun _ => ?_) rfl k
  simp only [zpx, mS, hs, zpA, zpB]
  rw [if_pos ⟨trivial, h.1⟩, h.2]
  simp only []
  rw [if_pos (by rw [n32_eq (by rcases hx with rfl | rfl <;> decide)]; exact hx)]
theorem g_wl {ix len A B K n : Nat} {Z : Int} {a : Nat} {x : Int} (hf : zfn pc (zC y) = some (.putfield ix, len, A, B, K, Z)) (hs : (Sh0 L)[a]? = some (A, n)) (h : (A < 8 ∧ 2 ≤ a ∧ B < n) ∧ zty A B = 2) (k : Go L d y (pc + len) lv st (zup2 I a B x) Q) : Go L d y pc lv (vL x :: vR a :: st) I Q := by
  refine Go.px hf rfl rfl rfl (fun _ => ?_) rfl k
  simp only [zpx, mS, hs, zpA, zpB]
  rw [if_pos ⟨trivial, h.1⟩, h.2]
  rfl
theorem g_rim {ix len A B K : Nat} {Z : Int} (hf : zfn pc (zC y) = some (.getstatic ix, len, A, B, K, Z)) (k : Go L d y (pc + len) lv (vR 0 :: st) I Q) : Go L d y pc lv st I Q := Go.px hf rfl rfl rfl (fun _ => rfl) rfl k
/-- an array's place p -/
theorem g_ia {len A B K n : Nat} {Z : Int} {a : Nat} {i : Int} (p : Nat) (hf : zfn pc (zC y) = some (.iaload, len, A, B, K, Z)) (hs : (Sh0 L)[a]? = some (100, n)) (hi : i = (p : Int)) (hp : p < n) (k : Go L d y (pc + len) lv (vI (I a p) :: st) I Q) : Go L d y pc lv (vI i :: vR a :: st) I Q := by
  refine Go.px hf rfl rfl rfl (fun hL => ?_) rfl k
  have hn := Sh0_le hL hs
  subst hi
  simp only [zpx, mS, hs]
  rw [n32_eq (by omega), if_pos ⟨trivial, by omega, by omega⟩, Int.toNat_natCast]
theorem g_ba {len A B K n c9 : Nat} {Z : Int} {a : Nat} {i : Int} (p : Nat) (hf : zfn pc (zC y) = some (.baload, len, A, B, K, Z)) (hs : (Sh0 L)[a]? = some (c9, n)) (hc : (c9 = 101 ∨ c9 = 102) ∧ 2 ≤ a) (hi : i = (p : Int)) (hp : p < n) (k : Go L d y (pc + len) lv (vI (I a p) :: st) I Q) : Go L d y pc lv (vI i :: vR a :: st) I Q := by
  refine Go.px hf rfl rfl rfl (fun hL => ?_) rfl k
  have hn := Sh0_le hL hs
  subst hi
  simp only [zpx, mS, hs]
  rw [n32_eq (by omega), if_pos ⟨hc.1, hc.2, by omega, by omega⟩, Int.toNat_natCast]
theorem g_aa {len A B K n c9 b : Nat} {Z : Int} {a : Nat} {i : Int} (p : Nat) (hf : zfn pc (zC y) = some (.aaload, len, A, B, K, Z)) (hs : (Sh0 L)[a]? = some (c9, n)) (hc : (c9 = 103 ∨ c9 = 104) ∧ 2 ≤ a) (hi : i = (p : Int)) (hp : p < n) (hr : (R0.getD a []).getD p none = some b) (k : Go L d y (pc + len) lv (vR b :: st) I Q) : Go L d y pc lv (vI i :: vR a :: st) I Q := by
  refine Go.px hf rfl rfl rfl (fun hL => ?_) rfl k
  have hn := Sh0_le hL hs
  subst hi
  simp only [zpx, mS, hs]
  rw [n32_eq (by omega), if_pos ⟨hc.1, hc.2, by omega, by omega⟩, Int.toNat_natCast, R0_ext, hr]
theorem g_ias {len A B K n : Nat} {Z : Int} {a : Nat} {i x : Int} (p : Nat) (hf : zfn pc (zC y) = some (.iastore, len, A, B, K, Z)) (hs : (Sh0 L)[a]? = some (100, n)) (ha : 2 ≤ a) (hi : i = (p : Int)) (hp : p < n) (k : Go L d y (pc + len) lv st (zup2 I a p x) Q) : Go L d y pc lv (vI x :: vI i :: vR a :: st) I Q := by
  refine Go.px hf rfl rfl rfl (fun hL => ?_) rfl k
  have hn := Sh0_le hL hs
  subst hi
  simp only [zpx, mS, hs]
  rw [n32_eq (by omega), if_pos ⟨trivial, ha, by omega, by omega⟩, Int.toNat_natCast]
theorem g_bas {len A B K n c9 : Nat} {Z : Int} {a : Nat} {i x : Int} (p : Nat) (hf : zfn pc (zC y) = some (.bastore, len, A, B, K, Z)) (hs : (Sh0 L)[a]? = some (c9, n)) (hc : c9 = 101 ∧ -128 ≤ x ∧ x < 128 ∨ c9 = 102 ∧ (x = 0 ∨ x = 1)) (ha : 2 ≤ a) (hi : i = (p : Int)) (hp : p < n) (k : Go L d y (pc + len) lv st (zup2 I a p x) Q) : Go L d y pc lv (vI x :: vI i :: vR a :: st) I Q := by
  refine Go.px hf rfl rfl rfl (fun hL => ?_) rfl k
  have hn := Sh0_le hL hs
  subst hi
  simp only [zpx, mS, hs]
  rw [n32_eq (x := (p : Int)) (by omega), n32_eq (x := x) (by omega), if_pos ⟨hc, ha, by omega, by omega⟩, Int.toNat_natCast]
theorem g_alen {len A B K n : Nat} {Z : Int} {a : Nat} (hf : zfn pc (zC y) = some (.arraylength, len, A, B, K, Z)) (hs : (Sh0 L)[a]? = some (100, n)) (k : Go L d y (pc + len) lv (vI (n : Int) :: st) I Q) : Go L d y pc lv (vR a :: st) I Q := by
  refine Go.px hf rfl rfl rfl (fun hL => ?_) rfl k
  simp only [zpx, mS, hs]
  rw [if_pos trivial]
theorem zand_3 (x : Int) : 0 ≤ zand x 3 ∧ zand x 3 ≤ 3 := by
  unfold zand
  obtain ⟨j, hj, e⟩ := pk_andE (Int32.ofInt x) (m := Int32.ofInt 3) 2 (by decide +kernel)
  rw [e, nI_toInt (by omega)]
  omega
/-- division of what isn't negative -/
theorem zdiv_eq {a b : Int} (ha : 0 ≤ a ∧ a ≤ 2147483647) (hb : 0 < b ∧ b ≤ 2147483647) : zdiv a b = a / b := by
  unfold zdiv
  have e1 : (Int32.ofInt a).toInt = a := n32_eq (by omega)
  have e2 : (Int32.ofInt b).toInt = b := n32_eq (by omega)
  have h2 : 0 ≤ a / b ∧ a / b ≤ a := ⟨Int.ediv_nonneg ha.1 (by omega), Int.ediv_le_self b ha.1⟩
  rw [Int32.toInt_div, e1, e2, Int.tdiv_eq_ediv_of_nonneg ha.1]
  exact Int.bmod_eq_of_le (by omega) (by omega)
theorem zrem_eq {a b : Int} (ha : 0 ≤ a ∧ a ≤ 2147483647) (hb : 0 < b ∧ b ≤ 2147483647) : zrem a b = a % b := by
  unfold zrem
  have e1 : (Int32.ofInt a).toInt = a := n32_eq (by omega)
  have e2 : (Int32.ofInt b).toInt = b := n32_eq (by omega)
  rw [rem_toInt, e1, e2, Int.tmod_eq_emod_of_nonneg ha.1]
theorem g_div {len A B K : Nat} {Z : Int} {a b : Int} (n : Nat) (hf : zfn pc (zC y) = some (.idiv, len, A, B, K, Z)) (ha : 0 ≤ a ∧ a ≤ 2147483647) (hb : 0 < b ∧ b ≤ 2147483647) (k : Go L d y n lv (vI (a / b) :: st) I Q) (hn : pc + len = n := by rfl) : Go L d y pc lv (vI b :: vI a :: st) I Q := by
  refine Go.px hf rfl rfl rfl (fun hL => ?_) hn k
  simp only [zpx]
  rw [n32_eq (by omega), if_neg (by omega), zdiv_eq ha hb]
theorem g_rem {len A B K : Nat} {Z : Int} {a b : Int} (n : Nat) (hf : zfn pc (zC y) = some (.irem, len, A, B, K, Z)) (ha : 0 ≤ a ∧ a ≤ 2147483647) (hb : 0 < b ∧ b ≤ 2147483647) (k : Go L d y n lv (vI (a % b) :: st) I Q) (hn : pc + len = n := by rfl) : Go L d y pc lv (vI b :: vI a :: st) I Q := by
  refine Go.px hf rfl rfl rfl (fun hL => ?_) hn k
  simp only [zpx]
  rw [n32_eq (by omega), if_neg (by omega), zrem_eq ha hb]
theorem g_i2l {len A B K : Nat} {Z : Int} {a : Int} (n : Nat) (hf : zfn pc (zC y) = some (.i2l, len, A, B, K, Z)) (ha : rng a) (k : Go L d y n lv (vL a :: st) I Q) (hn : pc + len = n := by rfl) : Go L d y pc lv (vI a :: st) I Q := by
  refine Go.px hf rfl rfl rfl (fun hL => ?_) hn k
  simp only [zpx]
  rw [n32_eq ha]
theorem g_lcmp {len A B K : Nat} {Z : Int} {a b : Int} (n : Nat) (hf : zfn pc (zC y) = some (.lcmp, len, A, B, K, Z)) (ha : rng64 a) (hb : rng64 b) (k : Go L d y n lv (vI (if b < a then 1 else if a = b then 0 else -1) :: st) I Q) (hn : pc + len = n := by rfl) : Go L d y pc lv (vL b :: vL a :: st) I Q := by
  refine Go.px hf rfl rfl rfl (fun hL => ?_) hn k
  simp only [zpx, zlcmp]
  rw [n64_eq ha, n64_eq hb]
/-- the first n places of a, copied to b -/
def cpN (I : zI) (a b n : Nat) : zI := fun q => if q = b then (fun j => if j < n then I a j else I b j) else I q
theorem g_cpy {ix len A B n na nb a b : Nat} {Z : Int} (hf : zfn pc (zC y) = some (.invokestatic ix, len, A, B, 13, Z)) (ha : (Sh0 L)[a]? = some (100, na)) (hb : (Sh0 L)[b]? = some (100, nb)) (h2 : 2 ≤ a ∧ 2 ≤ b) (hn : n ≤ na ∧ n ≤ nb) (hst : zcats st ≤ 3) (k : Go L (d + 1) y (pc + len) lv st (cpN I a b n) Q) : Go L (d + 1) y pc lv (vI (n : Int) :: vI 0 :: vR b :: vI 0 :: vR a :: st) I Q := by
  refine Go.px hf rfl rfl rfl (fun hL => ?_) rfl k
  have h1 := Sh0_le hL ha
  simp only [zpx, mS, ha, hb, zpK]
  have hc : zcats (vI (n : Int) :: vI 0 :: vR b :: vI 0 :: vR a :: st) ≤ 8 := by
    unfold zcats at hst ⊢
    simp only [List.map_cons, List.sum_cons, zcat]
    omega
  rw [if_pos ⟨hc, by omega⟩, n32_0, n32_eq (x := (n : Int)) (by omega), if_pos ⟨trivial, trivial, h2.1, h2.2, by omega, by omega, by omega, by omega, by omega⟩]
  have e : ∀ (f h : Nat → Int), va_cpy f h (0 : Int).toNat (0 : Int).toNat (n : Int).toNat = fun j => if j < n then f j else h j := fun f h => by
    funext j
    unfold va_cpy
    simp
  rw [e]
  rfl
/-- a method's end -/
theorem g_ret {q : zP} {v : Option zV} (hf : zfn pc (zC y) = some q) (hr : zret y q.1 st = some v) (h : Q v I) (he : zend q.1 = true := by rfl) : Go L d y pc lv st I Q := fun _ => by
  refine ⟨1, v, I, ?_, h⟩
  unfold zx
  simp only [hf, he, cond_true, hr]
theorem g_retb {len A B K : Nat} {Z : Int} {x : Int} (hf : zfn pc (zC y) = some (.ireturn, len, A, B, K, Z)) (hr : (zM_ y).2.2.2 = some .boolean) (hx : x = 0 ∨ x = 1) (h : Q (some (vI x)) I) : Go L d y pc lv [vI x] I Q := by
  refine g_ret (v := some (vI x)) hf ?_ h
  simp only [zret, hr]
  rw [if_pos (by rw [n32_eq (by rcases hx with rfl | rfl <;> decide)]; exact hx)]
/-- a call, by the callee's contract -/
theorem g_call {q : zP} {P : Option zV → zI → Prop} (hf : zfn pc (zC y) = some q) (hM : Ct L d (zpA q) (st.take (zpB q)).reverse I P) (k : ∀ (r : Option zV) (I1 : zI), P r I1 → Go L (d + 1) y (pc + q.2.1) lv (r.toList ++ st.drop (zpB q)) I1 Q)
    (he : zend q.1 = false := by rfl) (hc : zicall q = true := by rfl) (hs : (decide (zpB q ≤ st.length ∧ zcats (st.drop (zpB q)) ≤ 8 ∧ zpA q < 95 ∧ (zargs (st.take (zpB q)).reverse).length ≤ (zM_ (zpA q)).2.2.1 ∧ (zM_ (zpA q)).2.2.1 ≤ 21)) = true := by rfl) (hr : zrcv q (mS L I) (st.take (zpB q)).reverse = true := by rfl) : Go L (d + 1) y pc lv st I Q := fun hL => by
  obtain ⟨n1, v, I1, h1, h2⟩ := hM hL
  obtain ⟨n2, w, I2, h3, h4⟩ := k v I1 h2 hL
  have hs := of_decide_eq_true hs
  refine ⟨n1 + n2 + 1, w, I2, ?_, h4⟩
  unfold zx
  simp only [hf, he, hc, cond_true, cond_false]
  rw [if_pos ⟨hs.1, hs.2.1, hs.2.2.1, hs.2.2.2.1, hs.2.2.2.2, hr⟩, zx_fuel n1 _ _ _ _ _ _ _ h1 n2]
  simp only []
  rw [Nat.add_comm n1 n2]
  exact zx_fuel n2 _ _ _ _ _ _ _ h3 n1
theorem Go.mono {P : Option zV → zI → Prop} (h : Go L d y pc lv st I P) (hPQ : ∀ v I', P v I' → Q v I') : Go L d y pc lv st I Q := fun hL => by
  obtain ⟨n, v, I', h1, h2⟩ := h hL
  exact ⟨n, v, I', h1, hPQ v I' h2⟩
end GO
/-- a receiver by its shape -/
theorem rcv {q : zP} {L a c n : Nat} {I : zI} {as : List zV} (hs : (Sh0 L)[a]? = some (c, n)) (h : c < 8 ∧ 2 ≤ a ∧ (zCl.getD c zCd).1 = (zM_ (zpA q)).1.cls) : zrcv q (mS L I) (vR a :: as) = true := by
  unfold zrcv
  split
  · rename_i ix he
    simp only [mS, hs]
    exact decide_eq_true h
  · rfl
  · rfl
/-- a contract with one answer and one state behind it -/
def Ev (L d y : Nat) (as : List zV) (I : zI) (v : Option zV) (I1 : zI) : Prop := Ct L d y as I (fun r I' => r = v ∧ I' = I1)
section GE
variable {L d y pc : Nat} {lv : zLv} {st : List zV} {I : zI} {Q : Option zV → zI → Prop}
theorem g_callE {q : zP} {v : Option zV} {I1 : zI} (hf : zfn pc (zC y) = some q) (hM : Ev L d (zpA q) (st.take (zpB q)).reverse I v I1) (k : Go L (d + 1) y (pc + q.2.1) lv (v.toList ++ st.drop (zpB q)) I1 Q)
    (he : zend q.1 = false := by rfl) (hc : zicall q = true := by rfl) (hs : (decide (zpB q ≤ st.length ∧ zcats (st.drop (zpB q)) ≤ 8 ∧ zpA q < 95 ∧ (zargs (st.take (zpB q)).reverse).length ≤ (zM_ (zpA q)).2.2.1 ∧ (zM_ (zpA q)).2.2.1 ≤ 21)) = true := by rfl) (hr : zrcv q (mS L I) (st.take (zpB q)).reverse = true := by rfl) : Go L (d + 1) y pc lv st I Q :=
  g_call hf hM (fun r I' h => by
    obtain ⟨h1, h2⟩ := h
    subst h1
    subst h2
    exact k) he hc hs hr
end GE
