/-! THE MAKING OF THE CELLS: runs over growing memory -/
def GD (d y pc : Nat) (lv : zLv) (st : List zV) (m : zMem) (Q : Option zV → zMem → Prop) : Prop := ∃ (n : Nat) (v : Option zV) (m' : zMem), zx n d y pc lv st m = some (v, m') ∧ Q v m'
/-- a new cell, all 0 -/
def zNw (I : zI) (l : Nat) : zI := fun a => if a = l then fun _ => 0 else I a
theorem zNw_ne {I : zI} {l q : Nat} (h : q ≠ l) : zNw I l q = I q := if_neg h
theorem zNw_at {I : zI} {l j : Nat} : zNw I l l j = 0 := by simp [zNw]
section ED
variable {d y pc : Nat} {lv : zLv} {st : List zV} {m : zMem} {S : List (Nat × Nat)} {R : List (List (Option Nat))} {I : zI} {Q : Option zV → zMem → Prop}
theorem GD.mono {P : Option zV → zMem → Prop} (h : GD d y pc lv st m P) (hPQ : ∀ v m', P v m' → Q v m') : GD d y pc lv st m Q := by
  obtain ⟨n, v, m', h1, h2⟩ := h
  exact ⟨n, v, m', h1, hPQ v m' h2⟩
theorem GD.loc {lv' : zLv} (h : lv = lv') (k : GD d y pc lv' st m Q) : GD d y pc lv st m Q := by
  rw [h]
  exact k
theorem GD.lx {q : zP} {lv' : zLv} {st' : List zV} {n : Nat} (hf : zfn pc (zC y) = some q) (he : zend q.1 = false) (hc : zicall q = false) (h : zlx q.1 lv st = some (lv', st')) (hn : pc + q.2.1 = n) (k : GD d y n lv' st' m Q) : GD d y pc lv st m Q := by
  obtain ⟨n, v, m', h1, h2⟩ := k
  refine ⟨n + 1, v, m', ?_, h2⟩
  unfold zx
  simp only [hf, he, hc, cond_false, h, hn]
  exact h1
theorem GD.px {q : zP} {st' : List zV} {m1 : zMem} {n : Nat} (hf : zfn pc (zC y) = some q) (he : zend q.1 = false) (hc : zicall q = false) (h0 : zlx q.1 lv st = none) (h : zpx d pc q st m = some (none, st', m1)) (hn : pc + q.2.1 = n) (k : GD d y n lv st' m1 Q) : GD d y pc lv st m Q := by
  obtain ⟨n, v, m', h1, h2⟩ := k
  refine ⟨n + 1, v, m', ?_, h2⟩
  unfold zx
  simp only [hf, he, hc, cond_false, h0, h, hn]
  exact h1
theorem GD.jx {q : zP} {st' : List zV} {j : Option Nat} {n : Nat} (hf : zfn pc (zC y) = some q) (he : zend q.1 = false) (hc : zicall q = false) (h0 : zlx q.1 lv st = none) (h : zpx d pc q st m = some (j, st', m)) (hn : j.getD (pc + q.2.1) = n) (k : GD d y n lv st' m Q) : GD d y pc lv st m Q := by
  obtain ⟨n, v, m', h1, h2⟩ := k
  refine ⟨n + 1, v, m', ?_, h2⟩
  unfold zx
  simp only [hf, he, hc, cond_false, h0, h]
  cases j with
  | none =>
    have hn : pc + q.2.1 = _ := hn
    simp only [hn]
    exact h1
  | some t =>
    have hn : t = _ := hn
    simp only [hn]
    exact h1
theorem e_l {q : zP} {lv' : zLv} {st' : List zV} (n : Nat) (hf : zfn pc (zC y) = some q) (h : zlx q.1 lv st = some (lv', st')) (k : GD d y n lv' st' m Q) (he : zend q.1 = false := by rfl) (hc : zicall q = false := by rfl) (hn : pc + q.2.1 = n := by rfl) : GD d y pc lv st m Q := GD.lx hf he hc h hn k
theorem e_p {q : zP} {st' : List zV} (n : Nat) (hf : zfn pc (zC y) = some q) (h : zpx d pc q st m = some (none, st', m)) (k : GD d y n lv st' m Q) (h0 : zlx q.1 lv st = none := by rfl) (he : zend q.1 = false := by rfl) (hc : zicall q = false := by rfl) (hn : pc + q.2.1 = n := by rfl) : GD d y pc lv st m Q := GD.px hf he hc h0 h hn k
theorem e_goto {o : Int} {len A B K : Nat} {Z : Int} (hf : zfn pc (zC y) = some (.goto o, len, A, B, K, Z)) (k : GD d y A lv st m Q) : GD d y pc lv st m Q := GD.jx hf rfl rfl rfl rfl rfl k
theorem e_ic_ge {o : Int} {len A B K : Nat} {Z : Int} {a b : Int} (hf : zfn pc (zC y) = some (.if_icmp .ge o, len, A, B, K, Z)) (ha : rng a) (hb : rng b) (kt : b ≤ a → GD d y A lv st m Q) (kf : ¬ (b ≤ a) → GD d y (pc + len) lv st m Q) : GD d y pc lv (vI b :: vI a :: st) m Q := by
  refine GD.jx (st' := st) (j := if b ≤ a then some A else none) (n := if b ≤ a then A else pc + len) hf rfl rfl rfl ?_ ?_ ?_
  · simp only [zpx]
    rw [n32_eq ha, n32_eq hb]
    by_cases h : b ≤ a <;> simp [zcmp, h, zpA]
  · by_cases h : b ≤ a <;> simp [h]
  · split
    · rename_i h
      exact kt h
    · rename_i h
      exact kf h
theorem e_new {ix len A B K : Nat} {Z : Int} (n l w : Nat) (hf : zfn pc (zC y) = some (.new ix, len, A, B, K, Z)) (hA : A < 8) (hw : (zCl.getD A zCd).2.2 = w) (hl : S.length = l) (k : GD d y n lv (vR l :: st) (S ++ [(A, w)], R ++ [List.replicate w none], zNw I l) Q) (hn : pc + len = n := by rfl) : GD d y pc lv st (S, R, I) Q := by
  subst hw
  subst hl
  refine GD.px hf rfl rfl rfl ?_ hn k
  simp only [zpx, zpA]
  rw [if_pos hA]
  rfl
theorem e_newa {t : ArrayType} {len A B K : Nat} {Z : Int} (n l w cc : Nat) (hf : zfn pc (zC y) = some (.newarray t, len, A, B, K, Z)) (hcc : newarray.typeOf t = .int ∧ cc = 100 ∨ newarray.typeOf t = .byte ∧ cc = 101 ∨ newarray.typeOf t = .boolean ∧ cc = 102) (hl : S.length = l) (hw : w ≤ 1000) (k : GD d y n lv (vR l :: st) (S ++ [(cc, w)], R ++ [[]], zNw I l) Q) (hn : pc + len = n := by rfl) : GD d y pc lv (vI (w : Int) :: st) (S, R, I) Q := by
  subst hl
  refine GD.px hf rfl rfl rfl ?_ hn k
  have e : n32 (w : Int) = w := n32_eq (by omega)
  simp only [zpx]
  rw [e, if_pos ⟨by omega, by omega⟩, Int.toNat_natCast]
  rcases hcc with ⟨h, rfl⟩ | ⟨h, rfl⟩ | ⟨h, rfl⟩ <;> rw [h] <;> rfl
theorem e_anew {ix len A B K : Nat} {Z : Int} (n l w : Nat) (hf : zfn pc (zC y) = some (.anewarray ix, len, A, B, K, Z)) (hl : S.length = l) (hw : w ≤ 1000) (k : GD d y n lv (vR l :: st) (S ++ [(104, w)], R ++ [List.replicate w none], zNw I l) Q) (hn : pc + len = n := by rfl) : GD d y pc lv (vI (w : Int) :: st) (S, R, I) Q := by
  subst hl
  refine GD.px hf rfl rfl rfl ?_ hn k
  have e : n32 (w : Int) = w := n32_eq (by omega)
  simp only [zpx]
  rw [e, if_pos ⟨by omega, by omega⟩, Int.toNat_natCast]
  rfl
theorem e_multi {ix j len A B K : Nat} {Z : Int} (n l w v : Nat) (hf : zfn pc (zC y) = some (.multianewarray ix j, len, A, B, K, Z)) (hl : S.length = l) (hw : w ≤ 1000) (hv : v ≤ 1000) (k : ∀ J : zI, (∀ q, q < l → J q = I q) → GD d y n lv (vR l :: st) (S ++ [(103, w)] ++ List.replicate w (100, v), R ++ [(List.range w).map (fun i => some (l + 1 + i))] ++ List.replicate w [], J) Q) (hn : pc + len = n := by rfl) : GD d y pc lv (vI (v : Int) :: vI (w : Int) :: st) (S, R, I) Q := by
  subst hl
  have e : n32 (w : Int) = w := n32_eq (by omega)
  have e2 : n32 (v : Int) = v := n32_eq (by omega)
  generalize hm : zrows v w (znew (S, R, I) (103, w) ((List.range w).map (fun i => some (S.length + 1 + i)))) = mm
  have h1 : mm.1 = S ++ [(103, w)] ++ List.replicate w (100, v) := by rw [← hm, zrows_1]; rfl
  have h2 : mm.2.1 = R ++ [(List.range w).map (fun i => some (S.length + 1 + i))] ++ List.replicate w [] := by rw [← hm, zrows_2]; rfl
  have h3 : ∀ q, q < S.length → mm.2.2 q = I q := fun q hq => by
    rw [← hm, zrows_3]
    simp only [znew, List.length_append, List.length_singleton]
    rw [if_neg (by omega), if_neg (by omega)]
  refine GD.px (st' := vR S.length :: st) (m1 := mm) hf rfl rfl rfl ?_ hn ?_
  · simp only [zpx]
    rw [e, e2, if_pos ⟨by omega, by omega, by omega, by omega⟩, Int.toNat_natCast, Int.toNat_natCast, hm]
  · have kk := k mm.2.2 h3
    rw [← h1, ← h2] at kk
    exact kk
theorem e_wi {ix len A B K n : Nat} {Z : Int} {a : Nat} {x : Int} (hf : zfn pc (zC y) = some (.putfield ix, len, A, B, K, Z)) (hs : S[a]? = some (A, n)) (h : (A < 8 ∧ 2 ≤ a ∧ B < n) ∧ zty A B = 0) (k : GD d y (pc + len) lv st (S, R, zup2 I a B x) Q) : GD d y pc lv (vI x :: vR a :: st) (S, R, I) Q := by
  refine GD.px hf rfl rfl rfl ?_ rfl k
  simp only [zpx, hs, zpA, zpB]
  rw [if_pos ⟨trivial, h.1⟩, h.2]
  rfl
theorem e_wb {ix len A B K n : Nat} {Z : Int} {a : Nat} {x : Int} (hf : zfn pc (zC y) = some (.putfield ix, len, A, B, K, Z)) (hs : S[a]? = some (A, n)) (h : (A < 8 ∧ 2 ≤ a ∧ B < n) ∧ zty A B = 1) (hx : x = 0 ∨ x = 1) (k : GD d y (pc + len) lv st (S, R, zup2 I a B x) Q) : GD d y pc lv (vI x :: vR a :: st) (S, R, I) Q := by
  refine GD.px hf rfl rfl rfl ?_ rfl k
  simp only [zpx, hs, zpA, zpB]
  rw [if_pos ⟨trivial, h.1⟩, h.2]
  simp only []
  rw [if_pos (by rw [n32_eq (by rcases hx with rfl | rfl <;> decide)]; exact hx)]
theorem e_wl {ix len A B K n : Nat} {Z : Int} {a : Nat} {x : Int} (hf : zfn pc (zC y) = some (.putfield ix, len, A, B, K, Z)) (hs : S[a]? = some (A, n)) (h : (A < 8 ∧ 2 ≤ a ∧ B < n) ∧ zty A B = 2) (k : GD d y (pc + len) lv st (S, R, zup2 I a B x) Q) : GD d y pc lv (vL x :: vR a :: st) (S, R, I) Q := by
  refine GD.px hf rfl rfl rfl ?_ rfl k
  simp only [zpx, hs, zpA, zpB]
  rw [if_pos ⟨trivial, h.1⟩, h.2]
  rfl
theorem e_wr {ix len A B K n : Nat} {Z : Int} {a b : Nat} (row : List (Option Nat)) (hf : zfn pc (zC y) = some (.putfield ix, len, A, B, K, Z)) (hs : S[a]? = some (A, n)) (h : (A < 8 ∧ 2 ≤ a ∧ B < n) ∧ zty A B = 3) (hr : R.getD a [] = row) (hl : B < row.length) (k : GD d y (pc + len) lv st (S, R.set a (row.set B (some b)), I) Q) : GD d y pc lv (vR b :: vR a :: st) (S, R, I) Q := by
  subst hr
  refine GD.px hf rfl rfl rfl ?_ rfl k
  simp only [zpx, hs, zpA, zpB]
  rw [if_pos ⟨trivial, h.1⟩, h.2]
  simp only []
  rw [if_pos hl]
theorem e_fr {ix len A B K n : Nat} {Z : Int} {a b : Nat} (hf : zfn pc (zC y) = some (.getfield ix, len, A, B, K, Z)) (hs : S[a]? = some (A, n)) (h : (A < 8 ∧ 2 ≤ a ∧ B < n) ∧ zty A B = 3) (hr : (R.getD a []).getD B none = some b) (k : GD d y (pc + len) lv (vR b :: st) (S, R, I) Q) : GD d y pc lv (vR a :: st) (S, R, I) Q := by
  refine GD.px hf rfl rfl rfl ?_ rfl k
  simp only [zpx, hs, zpA, zpB]
  rw [if_pos ⟨trivial, h.1⟩, h.2]
  simp only [hr]
theorem e_ias {len A B K n : Nat} {Z : Int} {a : Nat} {i x : Int} (p : Nat) (hf : zfn pc (zC y) = some (.iastore, len, A, B, K, Z)) (hs : S[a]? = some (100, n)) (ha : 2 ≤ a) (hi : i = (p : Int)) (hp : p < n) (hn : n ≤ 1000) (k : GD d y (pc + len) lv st (S, R, zup2 I a p x) Q) : GD d y pc lv (vI x :: vI i :: vR a :: st) (S, R, I) Q := by
  refine GD.px hf rfl rfl rfl ?_ rfl k
  subst hi
  simp only [zpx, hs]
  rw [n32_eq (by omega), if_pos ⟨trivial, ha, by omega, by omega⟩, Int.toNat_natCast]
theorem e_aas {len A B K n w : Nat} {Z : Int} {a b : Nat} {i : Int} (p : Nat) (row : List (Option Nat)) (hf : zfn pc (zC y) = some (.aastore, len, A, B, K, Z)) (hs : S[a]? = some (104, n)) (hb : S[b]? = some (5, w)) (ha : 2 ≤ a ∧ 2 ≤ b) (hi : i = (p : Int)) (hp : p < n) (hn : n ≤ 1000) (hr : R.getD a [] = row) (hl : p < row.length) (k : GD d y (pc + len) lv st (S, R.set a (row.set p (some b)), I) Q) : GD d y pc lv (vR b :: vI i :: vR a :: st) (S, R, I) Q := by
  subst hr
  refine GD.px hf rfl rfl rfl ?_ rfl k
  subst hi
  simp only [zpx, hs, hb]
  rw [n32_eq (by omega), if_pos ⟨trivial, trivial, ha.1, ha.2, by omega, by omega, by rw [Int.toNat_natCast]; exact hl⟩, Int.toNat_natCast]
theorem e_obj {ix len A B : Nat} {Z : Int} {a : Nat} (n : Nat) (hf : zfn pc (zC y) = some (.invokespecial ix, len, A, B, 10, Z)) (hst : zcats st ≤ 8) (k : GD (d + 1) y n lv st m Q) (hn : pc + len = n := by rfl) : GD (d + 1) y pc lv (vR a :: st) m Q := by
  refine GD.px hf rfl rfl rfl ?_ hn k
  simp only [zpx, zpK]
  rw [if_pos ⟨trivial, by omega, hst⟩]
theorem e_ret {q : zP} {v : Option zV} (hf : zfn pc (zC y) = some q) (hr : zret y q.1 st = some v) (h : Q v m) (he : zend q.1 = true := by rfl) : GD d y pc lv st m Q := by
  refine ⟨1, v, m, ?_, h⟩
  unfold zx
  simp only [hf, he, cond_true, hr]
theorem e_call {q : zP} {P : Option zV → zMem → Prop} (hf : zfn pc (zC y) = some q) (hM : GD d (zpA q) 0 (zent (st.take (zpB q)).reverse (zM_ (zpA q)).2.2.1) [] m P) (hr : zrcv q m (st.take (zpB q)).reverse = true) (k : ∀ (r : Option zV) (m1 : zMem), P r m1 → GD (d + 1) y (pc + q.2.1) lv (r.toList ++ st.drop (zpB q)) m1 Q)
    (he : zend q.1 = false := by rfl) (hc : zicall q = true := by rfl) (hs : (decide (zpB q ≤ st.length ∧ zcats (st.drop (zpB q)) ≤ 8 ∧ zpA q < 95 ∧ (zargs (st.take (zpB q)).reverse).length ≤ (zM_ (zpA q)).2.2.1 ∧ (zM_ (zpA q)).2.2.1 ≤ 21)) = true := by rfl) : GD (d + 1) y pc lv st m Q := by
  obtain ⟨n1, v, I1, h1, h2⟩ := hM
  obtain ⟨n2, w, I2, h3, h4⟩ := k v I1 h2
  have hs := of_decide_eq_true hs
  refine ⟨n1 + n2 + 1, w, I2, ?_, h4⟩
  unfold zx
  simp only [hf, he, hc, cond_true, cond_false]
  rw [if_pos ⟨hs.1, hs.2.1, hs.2.2.1, hs.2.2.2.1, hs.2.2.2.2, hr⟩, zx_fuel n1 _ _ _ _ _ _ _ h1 n2]
  simp only []
  rw [Nat.add_comm n1 n2]
  exact zx_fuel n2 _ _ _ _ _ _ _ h3 n1
/-- a run over the standing cells is such a run -/
theorem GD.go {L : Nat} {P : Option zV → zI → Prop} (hL : L ≤ 3072) (h : Go L d y pc lv st I P) (hPQ : ∀ v J, P v J → Q v (mS L J)) : GD d y pc lv st (mS L I) Q := by
  obtain ⟨n, v, J, h1, h2⟩ := h hL
  exact ⟨n, v, mS L J, h1, hPQ v J h2⟩
theorem e_ic_eq {o : Int} {len A B K : Nat} {Z : Int} {a b : Int} (hf : zfn pc (zC y) = some (.if_icmp .eq o, len, A, B, K, Z)) (ha : rng a) (hb : rng b) (kt : a = b → GD d y A lv st m Q) (kf : ¬ (a = b) → GD d y (pc + len) lv st m Q) : GD d y pc lv (vI b :: vI a :: st) m Q := by
  refine GD.jx (st' := st) (j := if a = b then some A else none) (n := if a = b then A else pc + len) hf rfl rfl rfl ?_ ?_ ?_
  · simp only [zpx]
    rw [n32_eq ha, n32_eq hb]
    by_cases h : a = b <;> simp [zcmp, h, zpA]
  · by_cases h : a = b <;> simp [h]
  · split
    · rename_i h
      exact kt h
    · rename_i h
      exact kf h
theorem e_if_eq {o : Int} {len A B K : Nat} {Z : Int} {a : Int} (hf : zfn pc (zC y) = some (.ifCond .eq o, len, A, B, K, Z)) (ha : rng a) (kt : a = 0 → GD d y A lv st m Q) (kf : ¬ (a = 0) → GD d y (pc + len) lv st m Q) : GD d y pc lv (vI a :: st) m Q := by
  refine GD.jx (st' := st) (j := if a = 0 then some A else none) (n := if a = 0 then A else pc + len) hf rfl rfl rfl ?_ ?_ ?_
  · simp only [zpx]
    rw [n32_eq ha]
    by_cases h : a = 0 <;> simp [zcmp, h, zpA]
  · by_cases h : a = 0 <;> simp [h]
  · split
    · rename_i h
      exact kt h
    · rename_i h
      exact kf h
theorem e_ic_ne {o : Int} {len A B K : Nat} {Z : Int} {a b : Int} (hf : zfn pc (zC y) = some (.if_icmp .ne o, len, A, B, K, Z)) (ha : rng a) (hb : rng b) (kt : ¬ a = b → GD d y A lv st m Q) (kf : ¬ (¬ a = b) → GD d y (pc + len) lv st m Q) : GD d y pc lv (vI b :: vI a :: st) m Q := by
  refine GD.jx (st' := st) (j := if ¬ a = b then some A else none) (n := if ¬ a = b then A else pc + len) hf rfl rfl rfl ?_ ?_ ?_
  · simp only [zpx]
    rw [n32_eq ha, n32_eq hb]
    by_cases h : ¬ a = b <;> simp [zcmp, h, zpA]
  · by_cases h : ¬ a = b <;> simp [h]
  · split
    · rename_i h
      exact kt h
    · rename_i h
      exact kf h
theorem e_if_ne {o : Int} {len A B K : Nat} {Z : Int} {a : Int} (hf : zfn pc (zC y) = some (.ifCond .ne o, len, A, B, K, Z)) (ha : rng a) (kt : ¬ a = 0 → GD d y A lv st m Q) (kf : ¬ (¬ a = 0) → GD d y (pc + len) lv st m Q) : GD d y pc lv (vI a :: st) m Q := by
  refine GD.jx (st' := st) (j := if ¬ a = 0 then some A else none) (n := if ¬ a = 0 then A else pc + len) hf rfl rfl rfl ?_ ?_ ?_
  · simp only [zpx]
    rw [n32_eq ha]
    by_cases h : ¬ a = 0 <;> simp [zcmp, h, zpA]
  · by_cases h : ¬ a = 0 <;> simp [h]
  · split
    · rename_i h
      exact kt h
    · rename_i h
      exact kf h
theorem e_ic_lt {o : Int} {len A B K : Nat} {Z : Int} {a b : Int} (hf : zfn pc (zC y) = some (.if_icmp .lt o, len, A, B, K, Z)) (ha : rng a) (hb : rng b) (kt : a < b → GD d y A lv st m Q) (kf : ¬ (a < b) → GD d y (pc + len) lv st m Q) : GD d y pc lv (vI b :: vI a :: st) m Q := by
  refine GD.jx (st' := st) (j := if a < b then some A else none) (n := if a < b then A else pc + len) hf rfl rfl rfl ?_ ?_ ?_
  · simp only [zpx]
    rw [n32_eq ha, n32_eq hb]
    by_cases h : a < b <;> simp [zcmp, h, zpA]
  · by_cases h : a < b <;> simp [h]
  · split
    · rename_i h
      exact kt h
    · rename_i h
      exact kf h
theorem e_if_lt {o : Int} {len A B K : Nat} {Z : Int} {a : Int} (hf : zfn pc (zC y) = some (.ifCond .lt o, len, A, B, K, Z)) (ha : rng a) (kt : a < 0 → GD d y A lv st m Q) (kf : ¬ (a < 0) → GD d y (pc + len) lv st m Q) : GD d y pc lv (vI a :: st) m Q := by
  refine GD.jx (st' := st) (j := if a < 0 then some A else none) (n := if a < 0 then A else pc + len) hf rfl rfl rfl ?_ ?_ ?_
  · simp only [zpx]
    rw [n32_eq ha]
    by_cases h : a < 0 <;> simp [zcmp, h, zpA]
  · by_cases h : a < 0 <;> simp [h]
  · split
    · rename_i h
      exact kt h
    · rename_i h
      exact kf h
theorem e_if_ge {o : Int} {len A B K : Nat} {Z : Int} {a : Int} (hf : zfn pc (zC y) = some (.ifCond .ge o, len, A, B, K, Z)) (ha : rng a) (kt : 0 ≤ a → GD d y A lv st m Q) (kf : ¬ (0 ≤ a) → GD d y (pc + len) lv st m Q) : GD d y pc lv (vI a :: st) m Q := by
  refine GD.jx (st' := st) (j := if 0 ≤ a then some A else none) (n := if 0 ≤ a then A else pc + len) hf rfl rfl rfl ?_ ?_ ?_
  · simp only [zpx]
    rw [n32_eq ha]
    by_cases h : 0 ≤ a <;> simp [zcmp, h, zpA]
  · by_cases h : 0 ≤ a <;> simp [h]
  · split
    · rename_i h
      exact kt h
    · rename_i h
      exact kf h
theorem e_ic_gt {o : Int} {len A B K : Nat} {Z : Int} {a b : Int} (hf : zfn pc (zC y) = some (.if_icmp .gt o, len, A, B, K, Z)) (ha : rng a) (hb : rng b) (kt : b < a → GD d y A lv st m Q) (kf : ¬ (b < a) → GD d y (pc + len) lv st m Q) : GD d y pc lv (vI b :: vI a :: st) m Q := by
  refine GD.jx (st' := st) (j := if b < a then some A else none) (n := if b < a then A else pc + len) hf rfl rfl rfl ?_ ?_ ?_
  · simp only [zpx]
    rw [n32_eq ha, n32_eq hb]
    by_cases h : b < a <;> simp [zcmp, h, zpA]
  · by_cases h : b < a <;> simp [h]
  · split
    · rename_i h
      exact kt h
    · rename_i h
      exact kf h
theorem e_if_gt {o : Int} {len A B K : Nat} {Z : Int} {a : Int} (hf : zfn pc (zC y) = some (.ifCond .gt o, len, A, B, K, Z)) (ha : rng a) (kt : 0 < a → GD d y A lv st m Q) (kf : ¬ (0 < a) → GD d y (pc + len) lv st m Q) : GD d y pc lv (vI a :: st) m Q := by
  refine GD.jx (st' := st) (j := if 0 < a then some A else none) (n := if 0 < a then A else pc + len) hf rfl rfl rfl ?_ ?_ ?_
  · simp only [zpx]
    rw [n32_eq ha]
    by_cases h : 0 < a <;> simp [zcmp, h, zpA]
  · by_cases h : 0 < a <;> simp [h]
  · split
    · rename_i h
      exact kt h
    · rename_i h
      exact kf h
theorem e_ic_le {o : Int} {len A B K : Nat} {Z : Int} {a b : Int} (hf : zfn pc (zC y) = some (.if_icmp .le o, len, A, B, K, Z)) (ha : rng a) (hb : rng b) (kt : a ≤ b → GD d y A lv st m Q) (kf : ¬ (a ≤ b) → GD d y (pc + len) lv st m Q) : GD d y pc lv (vI b :: vI a :: st) m Q := by
  refine GD.jx (st' := st) (j := if a ≤ b then some A else none) (n := if a ≤ b then A else pc + len) hf rfl rfl rfl ?_ ?_ ?_
  · simp only [zpx]
    rw [n32_eq ha, n32_eq hb]
    by_cases h : a ≤ b <;> simp [zcmp, h, zpA]
  · by_cases h : a ≤ b <;> simp [h]
  · split
    · rename_i h
      exact kt h
    · rename_i h
      exact kf h
theorem e_if_le {o : Int} {len A B K : Nat} {Z : Int} {a : Int} (hf : zfn pc (zC y) = some (.ifCond .le o, len, A, B, K, Z)) (ha : rng a) (kt : a ≤ 0 → GD d y A lv st m Q) (kf : ¬ (a ≤ 0) → GD d y (pc + len) lv st m Q) : GD d y pc lv (vI a :: st) m Q := by
  refine GD.jx (st' := st) (j := if a ≤ 0 then some A else none) (n := if a ≤ 0 then A else pc + len) hf rfl rfl rfl ?_ ?_ ?_
  · simp only [zpx]
    rw [n32_eq ha]
    by_cases h : a ≤ 0 <;> simp [zcmp, h, zpA]
  · by_cases h : a ≤ 0 <;> simp [h]
  · split
    · rename_i h
      exact kt h
    · rename_i h
      exact kf h
theorem e_ld {ix len A B K : Nat} {Z : Int} (n : Nat) (hf : zfn pc (zC y) = some (.ldc ix, len, A, B, K, Z)) (k : GD d y n lv (vI Z :: st) m Q) (hn : pc + len = n := by rfl) : GD d y pc lv st m Q := GD.px hf rfl rfl rfl rfl hn k
/-- a call of a method over the standing cells -/
theorem e_callG {L : Nat} {q : zP} {P : Option zV → zI → Prop} (hL : L ≤ 3072) (hf : zfn pc (zC y) = some q) (hM : Ct L d (zpA q) (st.take (zpB q)).reverse I P) (k : ∀ (r : Option zV) (J : zI), P r J → GD (d + 1) y (pc + q.2.1) lv (r.toList ++ st.drop (zpB q)) (mS L J) Q)
    (he : zend q.1 = false := by rfl) (hc : zicall q = true := by rfl) (hs : (decide (zpB q ≤ st.length ∧ zcats (st.drop (zpB q)) ≤ 8 ∧ zpA q < 95 ∧ (zargs (st.take (zpB q)).reverse).length ≤ (zM_ (zpA q)).2.2.1 ∧ (zM_ (zpA q)).2.2.1 ≤ 21)) = true := by rfl) (hr : zrcv q (mS L I) (st.take (zpB q)).reverse = true := by rfl) : GD (d + 1) y pc lv st (mS L I) Q := by
  refine e_call (P := fun r m => ∃ J : zI, m = mS L J ∧ P r J) hf (GD.go hL hM (fun r J h => ⟨J, rfl, h⟩)) hr (fun r m h => ?_) he hc hs
  obtain ⟨J, rfl, h⟩ := h
  exact k r J h
theorem i_empty {a n : Nat} (hs : S[a]? = some (3, 3)) (ha : 2 ≤ a) (hr : (R.getD a []).getD 2 none = some n) (hb : S[n]? = some (100, 8)) (hn : 2 ≤ n) : GD d k_X3_empty 0 [some (vR a), none] [] (S, R, I) (fun r m => r = none ∧ m.1 = S ∧ m.2.1 = R ∧ (∀ j, j < 8 → m.2.2 n j = -1) ∧ ∀ q, q ≠ n → m.2.2 q = I q) := by
  have key : ∀ (mm p : Nat) (J : zI), p + mm = 8 → (∀ j, j < p → J n j = -1) → (∀ q, q ≠ n → J q = I q) → GD d k_X3_empty 2 [some (vR a), some (vI p)] [] (S, R, J) (fun r m => r = none ∧ m.1 = S ∧ m.2.1 = R ∧ (∀ j, j < 8 → m.2.2 n j = -1) ∧ ∀ q, q ≠ n → m.2.2 q = I q) := by
    intro mm
    induction mm with
    | zero =>
      intro p J hp h1 h2
      refine e_l 3 rfl rfl ?_
      refine e_p 5 rfl rfl ?_
      refine e_ic_ge rfl (by omega) (by omega) (fun g => ?_) (fun g => absurd (by omega) g)
      exact e_ret rfl rfl ⟨rfl, rfl, rfl, fun j hj => h1 j (by omega), h2⟩
    | succ mm ih =>
      intro p J hp h1 h2
      refine e_l 3 rfl rfl ?_
      refine e_p 5 rfl rfl ?_
      refine e_ic_ge rfl (by omega) (by omega) (fun g => absurd g (by omega)) (fun g => ?_)
      refine e_l 9 rfl rfl ?_
      refine e_fr rfl hs ⟨⟨by decide, ha, by decide⟩, by decide⟩ hr ?_
      refine e_l 13 rfl rfl ?_
      refine e_p 14 rfl rfl ?_
      refine e_ias p rfl hb hn rfl (by omega) (by omega) ?_
      refine e_l 18 rfl rfl ?_
      refine e_goto rfl ?_
      refine ih (p + 1) _ (by omega) (fun j hj => ?_) (fun q hq => by rw [zup2_ne hq]; exact h2 q hq)
      by_cases hjp : j = p
      · rw [hjp, zup2_at]
      · rw [zup2_an hjp]
        exact h1 j (by omega)
  refine e_p 1 rfl rfl ?_
  refine e_l 2 rfl rfl ?_
  exact key 8 0 I (by omega) (fun j hj => absurd hj (by omega)) (fun _ _ => rfl)
theorem i_rect {a n : Nat} (hs : S[a]? = some (3, 3)) (ha : 2 ≤ a) (han : a < n) (hn : S.length = n) (hRn : R.length = n) (hr : R.getD a [] = [none, none, none]) : GD (d + 1) k_X3_init 0 [some (vR a)] [] (S, R, I) (fun r m => r = none ∧ m.1 = S ++ [(100, 8)] ∧ m.2.1 = R.set a [none, none, some n] ++ [[]] ∧ m.2.2 a 0 = 4 ∧ m.2.2 a 1 = 2 ∧ (∀ j, j < 8 → m.2.2 n j = -1) ∧ ∀ q, q < n → q ≠ a → m.2.2 q = I q) := by
  have hs2 : (S ++ [(100, 8)])[a]? = some (3, 3) := by rw [List.getElem?_append_left (by omega)]; exact hs
  have hr2 : (R ++ [[]]).getD a [] = [none, none, none] := by
    rw [List.getD_eq_getElem?_getD, List.getElem?_append_left (by omega), ← List.getD_eq_getElem?_getD]
    exact hr
  have hb : (S ++ [(100, 8)])[n]? = some (100, 8) := by rw [← hn, List.getElem?_concat_length]
  have hset : (R ++ [[]]).set a [none, none, some n] = R.set a [none, none, some n] ++ [[]] := List.set_append_left a _ (by omega)
  refine e_l 1 rfl rfl ?_
  refine e_obj 4 rfl (by decide) ?_
  refine e_l 5 rfl rfl ?_
  refine e_p 6 rfl rfl ?_
  refine e_wi rfl hs ⟨⟨by decide, ha, by decide⟩, by decide⟩ ?_
  refine e_l 10 rfl rfl ?_
  refine e_p 11 rfl rfl ?_
  refine e_wi rfl hs ⟨⟨by decide, ha, by decide⟩, by decide⟩ ?_
  refine e_l 15 rfl rfl ?_
  refine e_p 17 rfl rfl ?_
  refine e_newa 19 n 8 100 rfl (Or.inl ⟨rfl, rfl⟩) hn (by decide) ?_
  refine e_wr [none, none, none] rfl hs2 ⟨⟨by decide, ha, by decide⟩, by decide⟩ hr2 (by decide) ?_
  show GD (d + 1) k_X3_init 22 _ _ (_, (R ++ [[]]).set a [none, none, some n], _) _
  rw [hset]
  refine e_l 23 rfl rfl ?_
  refine e_call rfl (i_empty (n := n) hs2 ha ?_ hb (by omega)) ?_ (fun r m hm => ?_)
  · have hrow : (R.set a [none, none, some n] ++ [[]]).getD a [] = [none, none, some n] := by
      rw [List.getD_eq_getElem?_getD, List.getElem?_append_left (by rw [List.length_set]; omega), List.getElem?_set_self (by omega)]
      rfl
    rw [hrow]
    rfl
  · show (match (S ++ [(100, 8)])[a]? with
      | some (c, _) => decide (c < 8 ∧ 2 ≤ a ∧ (zCl.getD c zCd).1 = (zM_ k_X3_empty).1.cls)
      | none => false) = true
    rw [hs2]
    exact decide_eq_true ⟨by decide, ha, rfl⟩
  · obtain ⟨rfl, h1, h2, h3, h4⟩ := hm
    refine e_ret rfl rfl ⟨rfl, h1, h2, ?_, ?_, h3, fun q q1 q2 => ?_⟩
    · rw [h4 a (by omega), zNw_ne (by omega), zup2_an (by omega), zup2_at]
    · rw [h4 a (by omega), zNw_ne (by omega), zup2_at]
    · rw [h4 q (by omega), zNw_ne (by omega), zup2_ne q2, zup2_ne q2]
theorem i_state {a n : Nat} (hs : S[a]? = some (5, 3)) (ha : 2 ≤ a) (han : a < n) (hn : S.length = n) (hRn : R.length = n) (hr : R.getD a [] = [none, none, none]) : GD (d + 2) k_X5_init 0 [some (vR a)] [] (S, R, I) (fun r m => r = none ∧ m.1 = S ++ [(100, 8), (3, 3), (100, 8)] ∧ m.2.1 = R.set a [none, some n, some (n + 1)] ++ [[], [none, none, some (n + 2)], []] ∧ m.2.2 a 0 = 0 ∧ (∀ j, m.2.2 n j = 0) ∧ m.2.2 (n + 1) 0 = 4 ∧ m.2.2 (n + 1) 1 = 2 ∧ (∀ j, j < 8 → m.2.2 (n + 2) j = -1) ∧ ∀ q, q < n → q ≠ a → m.2.2 q = I q) := by
  have hs1 : (S ++ [(100, 8)])[a]? = some (5, 3) := by rw [List.getElem?_append_left (by omega)]; exact hs
  have hr1 : (R ++ [[]]).getD a [] = [none, none, none] := by
    rw [List.getD_eq_getElem?_getD, List.getElem?_append_left (by omega), ← List.getD_eq_getElem?_getD]
    exact hr
  have hset1 : (R ++ [[]]).set a [none, some n, none] = R.set a [none, some n, none] ++ [[]] := List.set_append_left a _ (by omega)
  have hl1 : (S ++ [(100, 8)]).length = n + 1 := by rw [List.length_append, hn]; rfl
  have hl2 : (S ++ [(100, 8)] ++ [(3, 3)]).length = n + 2 := by rw [List.length_append, hl1]; rfl
  have hk1 : (R.set a [none, some n, none] ++ [[]] ++ [[none, none, none]]).length = n + 2 := by rw [List.length_append, List.length_append, List.length_set, hRn]; rfl
  have hs2 : (S ++ [(100, 8)] ++ [(3, 3)])[n + 1]? = some (3, 3) := by rw [← hl1, List.getElem?_concat_length]
  have hr2 : (R.set a [none, some n, none] ++ [[]] ++ [[none, none, none]]).getD (n + 1) [] = [none, none, none] := by
    have e : (R.set a [none, some n, none] ++ [[]]).length = n + 1 := by rw [List.length_append, List.length_set, hRn]; rfl
    rw [List.getD_eq_getElem?_getD, ← e, List.getElem?_concat_length]
    rfl
  refine e_l 1 rfl rfl ?_
  refine e_obj 4 rfl (by decide) ?_
  refine e_l 5 rfl rfl ?_
  refine e_p 6 rfl rfl ?_
  refine e_wi rfl hs ⟨⟨by decide, ha, by decide⟩, by decide⟩ ?_
  refine e_l 10 rfl rfl ?_
  refine e_p 12 rfl rfl ?_
  refine e_newa 14 n 8 100 rfl (Or.inl ⟨rfl, rfl⟩) hn (by decide) ?_
  refine e_wr [none, none, none] rfl hs1 ⟨⟨by decide, ha, by decide⟩, by decide⟩ hr1 (by decide) ?_
  show GD (d + 2) k_X5_init 17 _ _ (_, (R ++ [[]]).set a [none, some n, none], _) _
  rw [hset1]
  refine e_l 18 rfl rfl ?_
  refine e_new 21 (n + 1) 3 rfl (by decide) rfl hl1 ?_
  refine e_p 22 rfl rfl ?_
  refine e_call rfl (i_rect (a := n + 1) (n := n + 2) hs2 (by omega) (by omega) hl2 hk1 hr2) rfl (fun r m hm => ?_)
  obtain ⟨S1, R1, I1⟩ := m
  obtain ⟨rfl, h1, h2, h3, h4, h5, h6⟩ := hm
  dsimp only at h1 h2 h3 h4 h5 h6
  subst h1
  subst h2
  have hs3 : (S ++ [(100, 8)] ++ [(3, 3)] ++ [(100, 8)])[a]? = some (5, 3) := by
    rw [List.getElem?_append_left (by omega), List.getElem?_append_left (by omega)]
    exact hs1
  have hr3 : ((R.set a [none, some n, none] ++ [[]] ++ [List.replicate 3 none]).set (n + 1) [none, none, some (n + 2)] ++ [[]]) = R.set a [none, some n, none] ++ [[], [none, none, some (n + 2)], []] := by
    have e : (R.set a [none, some n, none] ++ [[]]).length = n + 1 := by rw [List.length_append, List.length_set, hRn]; rfl
    rw [List.set_append_right (n + 1) _ (by omega), e, Nat.sub_self]
    simp
  rw [hr3]
  have hr4 : (R.set a [none, some n, none] ++ [[], [none, none, some (n + 2)], []]).getD a [] = [none, some n, none] := by
    rw [List.getD_eq_getElem?_getD, List.getElem?_append_left (by rw [List.length_set]; omega), List.getElem?_set_self (by omega)]
    rfl
  refine e_wr [none, some n, none] rfl hs3 ⟨⟨by decide, ha, by decide⟩, by decide⟩ hr4 (show (2 : Nat) < 3 by decide) ?_
  refine e_ret rfl rfl ⟨rfl, by simp, ?_, ?_, fun j => ?_, h3, h4, h5, fun q q1 q2 => ?_⟩
  · show (R.set a [none, some n, none] ++ [[], [none, none, some (n + 2)], []]).set a [none, some n, some (n + 1)] = _
    rw [List.set_append_left a _ (by rw [List.length_set]; omega), List.set_set]
  · show I1 a 0 = 0
    rw [h6 a (by omega) (by omega), zNw_ne (by omega), zNw_ne (by omega), zup2_at]
  · show I1 n j = 0
    rw [h6 n (by omega) (by omega), zNw_ne (by omega), zNw_at]
  · show I1 q = I q
    rw [h6 q (by omega) (by omega), zNw_ne (by omega), zNw_ne (by omega), zup2_ne q2]
end ED
