/-! new T[n][m]; a method's end; a call (vr_outer stands in the claim's printed names) -/
theorem vr_outer (c : ClassId) (N h0 : Nat) : ∀ i : Nat, Jvm.Free.Multi.outerC c N h0 i = arrV c N (fun j => va_rf (if j < i then some (h0 + 1 + j) else none))
  | 0 => by
    show ({ cls := c, slots := Array.replicate N .null, vm := .none } : Cell) = _
    rw [arrV_new]
    refine congrArg (arrV c N) (funext fun j => ?_)
    simp [va_rf]
  | i + 1 => by
    show (Jvm.Free.Multi.outerC c N h0 i).setSlot i (.ref (h0 + 1 + i)) = _
    rw [vr_outer c N h0 i, arrV_store]
    refine congrArg (arrV c N) (funext fun j => ?_)
    by_cases e : j = i
    · subst e
      simp [updV, va_rf]
    · by_cases h : j < i
      · simp [updV, e, h, Nat.lt_succ_of_lt h]
      · simp [updV, e, h, show ¬ j < i + 1 by omega]
theorem zrows_1 (k : Nat) : ∀ (n : Nat) (m : zMem), (zrows k n m).1 = m.1 ++ List.replicate n (100, k)
  | 0, m => by simp [zrows]
  | n + 1, m => by
    rw [zrows, zrows_1 k n, List.replicate_succ]
    simp [znew]
theorem zrows_2 (k : Nat) : ∀ (n : Nat) (m : zMem), (zrows k n m).2.1 = m.2.1 ++ List.replicate n []
  | 0, m => by simp [zrows]
  | n + 1, m => by
    rw [zrows, zrows_2 k n, List.replicate_succ]
    simp [znew]
theorem zrows_3 (k : Nat) : ∀ (n : Nat) (m : zMem) (a : Nat), (zrows k n m).2.2 a = if m.1.length ≤ a ∧ a < m.1.length + n then fun _ => 0 else m.2.2 a
  | 0, m, a => by
    rw [if_neg (by omega)]
    rfl
  | n + 1, m, a => by
    rw [zrows, zrows_3 k n]
    simp only [znew, List.length_append, List.length_singleton]
    by_cases h : a = m.1.length
    · subst h
      rw [if_neg (by omega), if_pos rfl, if_pos (by omega)]
    · rw [if_neg h]
      by_cases h2 : m.1.length + 1 ≤ a ∧ a < m.1.length + 1 + n
      · rw [if_pos h2, if_pos (by omega)]
      · rw [if_neg h2, if_neg (by omega)]
section ZZ
variable {p : Program} {l : Launch} {e : Env} {R : Room} {s : State} {m : MethodId} {args : Array Value} {below : List Frame} {meth : Method} {c : Code} {Q : State → Prop} {y d n0 s0 : Nat} {g : zG} {pc : Nat} {lv : zLv} {mm : zMem} {r : List zV}
theorem s_multi (C0 : zCX p R s m args meth c y d g) (Cs : s.heap.size = gB g + (n0 - 2) ∧ 2 ≤ n0) (hs0 : s0 ≤ zsl mm) {ix : Nat} {n k : Int} {rs : List (Option Nat)} (hrs : rs = (List.range (n32 n).toNat).map (fun i => some (mm.1.length + 1 + i))) (hd : decode (zM_ y).2.1 pc = .ok (.multianewarray ix 2, 4)) (hw : (Cond.classLink (zM_ y).1.cls ix "[[I").before args s = true) (hw2 : (Cond.arrayClass .int).before args s = true)
    (h0 : 0 ≤ n32 n) (h1 : n32 n ≤ 1000) (h2 : 0 ≤ n32 k) (h3 : n32 k ≤ 1000)
    (hr1 : zln (zrows (n32 k).toNat (n32 n).toNat (znew mm (103, (n32 n).toNat) rs)) - n0 ≤ R.cells) (hr2 : zsl (zrows (n32 k).toNat (n32 n).toNat (znew mm (103, (n32 n).toNat) rs)) - s0 ≤ R.slots)
    (kk : zW p l e R s m args below meth c Q y g n0 s0 (pc + 4) lv (.inr (.inr (some mm.1.length)) :: r) (zrows (n32 k).toNat (n32 n).toNat (znew mm (103, (n32 n).toNat) rs))) : zW p l e R s m args below meth c Q y g n0 s0 pc lv (.inl k :: .inl n :: r) mm := by
  intro H locs ls hl hR hS
  have hn0 := zRep_ge Cs hR hS
  have hlen := hR.len
  have hK := (z_ownw C0).2.1
  have neg : ∀ {x : Int}, 0 ≤ n32 x → ¬ Int32.ofInt x < 0 := fun {x} h q => by
    have q2 : n32 x < n32 0 := (i32_lt x 0).mp q
    rw [n32_0] at q2
    omega
  generalize hm' : zrows (n32 k).toNat (n32 n).toNat (znew mm (103, (n32 n).toNat) rs) = m' at hr1 hr2 kk
  have e1 : m'.1 = mm.1 ++ [(103, (n32 n).toNat)] ++ List.replicate (n32 n).toNat (100, (n32 k).toNat) := by rw [← hm', zrows_1]; rfl
  have e2 : m'.2.1 = mm.2.1 ++ [rs] ++ List.replicate (n32 n).toNat [] := by rw [← hm', zrows_2]; rfl
  have e3 : ∀ a, m'.2.2 a = if mm.1.length ≤ a ∧ a < mm.1.length + 1 + (n32 n).toNat then fun _ => 0 else mm.2.2 a := fun a => by
    rw [← hm', zrows_3]
    simp only [znew, List.length_append, List.length_singleton]
    by_cases h : a = mm.1.length
    · subst h
      rw [if_neg (by omega), if_pos rfl, if_pos (by omega)]
    · rw [if_neg h]
      by_cases h2 : mm.1.length + 1 ≤ a ∧ a < mm.1.length + 1 + (n32 n).toNat
      · rw [if_pos h2, if_pos (by omega)]
      · rw [if_neg h2, if_neg (by omega)]
  have el : m'.1.length = mm.1.length + 1 + (n32 n).toNat := by
    rw [e1]
    simp
    omega
  have es : zsl m' = zsl mm + (n32 n).toNat + (n32 n).toNat * (n32 k).toNat := by
    unfold zsl
    rw [e1]
    simp
    omega
  unfold zln at hr1 hn0
  rw [el] at hr1
  rw [es] at hr2
  have hbn : (n32 n).toNat ≤ 1000 := by omega
  have hbk : (n32 k).toNat ≤ 1000 := by omega
  intro T hT X
  obtain ⟨vm₁, cA, comp, -, fA, fC, hO, hI, X', step⟩ := X.multianewarray2F (ty := .int) C0.1 C0.2.2.2.2.2.1 hw (z_ownw C0).2.2.2.2.1 hw2 (g := F0 m pc ls (.int (Int32.ofInt k) :: .int (Int32.ofInt n) :: r.map (mv g))) rfl (by rw [C0.2.1]; exact hd) rfl (neg h0) (neg h2) (by show (n32 n).toNat * 4 ≤ _; omega) (by show (n32 k).toNat * 4 ≤ _; omega) (by show (n32 k).toNat ≤ _; omega) rfl rfl (by show zln mm - n0 + (1 + (n32 n).toNat) ≤ _; unfold zln; omega) (by show zsl mm - s0 + ((n32 n).toNat + (n32 n).toNat * (n32 k).toNat) ≤ _; omega)
  generalize hF : Jvm.Free.Multi.fill (T.setVm vm₁) cA comp (Int32.ofInt n).toNatClampNeg (Int32.ofInt k).toNatClampNeg (defaultValue .int) (Int32.ofInt n).toNatClampNeg = F at X' step
  have hTh : (T.setVm vm₁).heap = H := hT
  obtain ⟨f1, f2, -, -⟩ := Jvm.Free.Multi.fill_facts (T.setVm vm₁) cA comp (Int32.ofInt n).toNatClampNeg (Int32.ofInt k).toNatClampNeg (defaultValue .int) (Int32.ofInt n).toNatClampNeg
  rw [hF, hTh] at f1 f2
  have hold : ∀ x : Nat, x < H.size → F.heap[x]? = H[x]? := fun x hx => by
    have := Jvm.Free.Multi.fill_old (T.setVm vm₁) cA comp (Int32.ofInt n).toNatClampNeg (Int32.ofInt k).toNatClampNeg (defaultValue .int) (a := x) (by rw [hTh]; exact hx) (Int32.ofInt n).toNatClampNeg
    rw [hF, hTh] at this
    exact this
  have hrow : ∀ j : Nat, j < (n32 n).toNat → F.heap[H.size + 1 + j]? = some (Jvm.Free.Multi.innerC comp (n32 k).toNat (defaultValue .int)) := fun j hj => by
    have := Jvm.Free.Multi.fill_inner (T.setVm vm₁) cA comp (Int32.ofInt n).toNatClampNeg (Int32.ofInt k).toNatClampNeg (defaultValue .int) (Int32.ofInt n).toNatClampNeg j hj
    rw [hF, hTh] at this
    exact this
  have hcA : cA = gK g 3 := by
    have e := (hK.2 3 _ rfl).2
    exact Option.some.inj (fA.symm.trans e)
  have hcC : comp = gK g 0 := by
    have e := (hK.2 0 _ rfl).2
    exact Option.some.inj (fC.symm.trans e)
  have z1 := hR.2.1
  have hsz : F.heap.size = H.size + 1 + (n32 n).toNat := f1
  have hR1 : zRep g m' F.heap := by
    obtain ⟨hP, g1, g2, g3, g4, g5, g6⟩ := hR
    refine ⟨?_, ?_, ?_, ?_, ?_, fun j => ?_, fun j => ?_⟩
    · intro i q hq
      have hi : i < m'.1.length - 2 := by
        have := (List.getElem?_eq_some_iff.mp hq).1
        rwa [zws_len] at this
      rw [zws_at hi] at hq
      cases hq
      by_cases c1 : i < mm.1.length - 2
      · have hq0 := hP i _ (zws_at c1)
        have u1 : m'.1.getD (i + 2) (0, 0) = mm.1.getD (i + 2) (0, 0) := by
          rw [e1, List.getD_eq_getElem?_getD, List.append_assoc, List.getElem?_append_left (by omega), ← List.getD_eq_getElem?_getD]
        have u2 : m'.2.1.getD (i + 2) [] = mm.2.1.getD (i + 2) [] := by
          rw [e2, List.getD_eq_getElem?_getD, List.append_assoc, List.getElem?_append_left (by omega), ← List.getD_eq_getElem?_getD]
        rw [u1, u2, e3, if_neg (by omega)]
        exact hq0.kept (hold _ hq0.lt)
      · by_cases c2 : i = mm.1.length - 2
        · have u1 : m'.1.getD (i + 2) (0, 0) = (103, (n32 n).toNat) := by
            rw [e1, List.getD_eq_getElem?_getD, List.append_assoc, List.getElem?_append_right (by omega), show i + 2 - mm.1.length = 0 by omega]
            rfl
          have u2 : m'.2.1.getD (i + 2) [] = rs := by
            rw [e2, List.getD_eq_getElem?_getD, List.append_assoc, List.getElem?_append_right (by omega), show i + 2 - mm.2.1.length = 0 by omega]
            rfl
          rw [u1, u2, e3, if_pos (by omega), zcl_q (Or.inl rfl)]
          show F.heap[gB g + i]? = some (vp_cell _ _)
          rw [show gB g + i = H.size by omega, f2, vr_outer, vp_cell_q, hcA]
          congr 2
          funext j
          congr 1
          rw [hrs, List.getD_eq_getElem?_getD, List.getElem?_map]
          by_cases hj : j < (n32 n).toNat
          · rw [List.getElem?_range hj]
            show (if j < (n32 n).toNat then _ else _) = some (zad g (mm.1.length + 1 + j))
            rw [if_pos hj, zad_2 (by omega)]
            congr 1
            omega
          · rw [List.getElem?_eq_none (by rw [List.length_range]; omega)]
            show (if j < (n32 n).toNat then _ else _) = none
            rw [if_neg hj]
        · have hj : i - (mm.1.length - 1) < (n32 n).toNat := by omega
          have u1 : m'.1.getD (i + 2) (0, 0) = (100, (n32 k).toNat) := by
            rw [e1, List.getD_eq_getElem?_getD, List.getElem?_append_right (by simp; omega), List.getElem?_replicate, if_pos (by simp; omega)]
            rfl
          rw [u1, e3, if_pos (by omega), zcl_i (Or.inl rfl)]
          show F.heap[gB g + i]? = some (vp_cell _ _)
          have hr9 := hrow _ hj
          rw [show H.size + 1 + (i - (mm.1.length - 1)) = gB g + i by omega] at hr9
          rw [hr9, hcC, vp_cell_i]
          show some ({ cls := gK g 0, slots := Array.replicate (n32 k).toNat (defaultValue .int), vm := .none } : Cell) = _
          rw [arrV_new]
          rfl
    · rw [hsz, el]
      omega
    · rw [e2, e1]
      simp [g2]
    · rw [e1, List.append_assoc, List.getElem?_append_left (by omega)]
      exact g3
    · rw [e1, List.append_assoc, List.getElem?_append_left (by omega)]
      exact g4
    · rw [e3, if_neg (by omega)]
      exact g5 j
    · rw [e3, if_neg (by omega)]
      exact g6 j
  have hS1 : va_S (zA g) s.heap F.heap locs := ⟨by rw [hsz]; have := hS.1; omega, fun x a b => (hold x (Nat.lt_of_lt_of_le a hS.1)).trans (hS.2.1 x a b), hS.2.2⟩
  have h9 := kk F.heap locs ls hl hR1 hS1
  have t1 : zln m' - n0 = zln mm - n0 + 1 + (n32 n).toNat := by
    unfold zln
    omega
  have t2 : zsl m' - s0 = zsl mm - s0 + (n32 n).toNat + (n32 n).toNat * (n32 k).toNat := by
    rw [es]
    omega
  rw [t1, t2] at h9
  obtain ⟨t, a1, b1⟩ := h9 F rfl X'
  refine ⟨t, step t ?_, b1⟩
  have e : mv g (.inr (.inr (some mm.1.length))) = .ref T.heap.size := by
    show va_rf (some (zad g mm.1.length)) = _
    rw [zad_2 hlen, hT, z1]
    rfl
  rw [List.map_cons, e] at a1
  exact a1
end ZZ
