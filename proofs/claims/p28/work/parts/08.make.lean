/-! the instructions that make cells, and the library's calls -/
section ZM
variable {p : Program} {l : Launch} {e : Env} {R : Room} {s : State} {m : MethodId} {args : Array Value} {below : List Frame} {meth : Method} {c : Code} {Q : State → Prop} {y d n0 s0 : Nat} {g : zG} {pc : Nat} {lv : zLv} {mm : zMem} {r : List zV}
theorem zRep.len {H : Heap} (hR : zRep g mm H) : 2 ≤ mm.1.length := by
  have h := (List.getElem?_eq_some_iff.mp hR.2.2.2.2.1).1
  omega
theorem zRep_ge {H : Heap} {locs : List Loc} (Cs : s.heap.size = gB g + (n0 - 2) ∧ 2 ≤ n0) (hR : zRep g mm H) (hS : va_S (zA g) s.heap H locs) : n0 ≤ zln mm := by
  have h1 := hR.2.1
  have h2 := hS.1
  have h3 := hR.len
  unfold zln
  omega
theorem znew_sl (m : zMem) (sh : Nat × Nat) (rs : List (Option Nat)) : zsl (znew m sh rs) = zsl m + sh.2 := by
  simp [zsl, znew]
theorem znew_ln (m : zMem) (sh : Nat × Nat) (rs : List (Option Nat)) : zln (znew m sh rs) = zln m + 1 := by
  simp [zln, znew]
/-- a new cell is the next one -/
theorem z_made {sh : Nat × Nat} {rs : List (Option Nat)} {H : Heap} {locs : List Loc} {ls : Array Slot} (Cs : s.heap.size = gB g + (n0 - 2) ∧ 2 ≤ n0) (hs0 : s0 ≤ zsl mm) (hl : LH g ls (zM_ y).2.2.1 lv) (hR : zRep g mm H) (hS : va_S (zA g) s.heap H locs)
    (k : zW p l e R s m args below meth c Q y g n0 s0 pc lv (.inr (.inr (some mm.1.length)) :: r) (znew mm sh rs)) {q : Nat} {e9 : va_E} (he9 : e9 = zcell g sh rs (fun _ => 0)) {H1 : Heap} (hP : va_P (gD g) zCl (zws g mm ++ [(q, e9)]) H1) (hD : va_D (zA g) (zws g mm ++ [(q, e9)])) (hS1 : va_S (zA g) H H1 locs) :
    W p l e R s m args below meth c H1 locs (zln mm - n0 + 1) (zsl mm - s0 + sh.2) Q (F0 m pc ls (.ref q :: r.map (mv g))) := by
  subst he9
  refine W.bnd fun hb => ?_
  have hn0 := zRep_ge Cs hR hS
  have h2 := hR.len
  have z1 := hR.2.1
  have hlast : (zws g mm ++ [(q, zcell g sh rs (fun _ => 0))])[mm.1.length - 2]? = some (q, zcell g sh rs (fun _ => 0)) := by
    rw [List.getElem?_append_right (by rw [zws_len]; omega), zws_len, Nat.sub_self]
    rfl
  have hq1 : q < H1.size := (hP _ _ hlast).lt
  have hq2 : gB g ≤ q := hD.2 _ _ hlast
  have hq3 : ∀ i, i < mm.1.length - 2 → q ≠ gB g + i := fun i hi he => by
    have h := hD.1 i (mm.1.length - 2) (gB g + i, zcell g (mm.1.getD (i + 2) (0, 0)) (mm.2.1.getD (i + 2) []) (mm.2.2 (i + 2))) (q, zcell g sh rs (fun _ => 0)) (by rw [List.getElem?_append_left (by rw [zws_len]; exact hi), zws_at hi]) hlast he.symm
    omega
  unfold zln at hn0 hb
  have hq : q = gB g + (mm.1.length - 2) := by
    by_cases h : q - gB g < mm.1.length - 2
    · exact absurd (show q = gB g + (q - gB g) by omega) (hq3 _ h)
    · omega
  have hz : H1.size = gB g + (mm.1.length + 1 - 2) := by omega
  have hR1 : zRep g (znew mm sh rs) H1 := by
    obtain ⟨-, e1, e2, e3, e4, e5, e6⟩ := hR
    refine ⟨?_, ?_, by simp [znew, e2], ?_, ?_, fun j => ?_, fun j => ?_⟩
    · rw [zws_push h2 e2, ← hq]
      exact hP
    · simp only [znew, List.length_append, List.length_singleton]
      exact hz
    · simp only [znew]
      rw [List.getElem?_append_left (by omega)]
      exact e3
    · simp only [znew]
      rw [List.getElem?_append_left (by omega)]
      exact e4
    · simp only [znew]
      rw [if_neg (by omega)]
      exact e5 j
    · simp only [znew]
      rw [if_neg (by omega)]
      exact e6 j
  have h9 := k H1 locs ls hl hR1 (va_S.on hS hS1)
  have t1 : zln (znew mm sh rs) - n0 = zln mm - n0 + 1 := by
    rw [znew_ln]
    unfold zln
    omega
  have t2 : zsl (znew mm sh rs) - s0 = zsl mm - s0 + sh.2 := by
    rw [znew_sl]
    omega
  rw [t1, t2] at h9
  have e : mv g (.inr (.inr (some mm.1.length))) = .ref q := by
    show va_rf (some (zad g mm.1.length)) = _
    rw [zad_2 h2, ← hq]
    rfl
  rw [List.map_cons, e] at h9
  exact h9
theorem s_new (C0 : zCX p R s m args meth c y d g) (Cs : s.heap.size = gB g + (n0 - 2) ∧ 2 ≤ n0) (hs0 : s0 ≤ zsl mm) {ix c9 : Nat} (hd : decode (zM_ y).2.1 pc = .ok (.new ix, 3)) (hc : c9 < 8)
    (h1 : (Cond.classLink (zM_ y).1.cls ix (zCl.getD c9 zCd).1).before args s = true) (h2 : (Cond.instantiable (zCl.getD c9 zCd).1 (zCl.getD c9 zCd).2.2).before args s = true) (h3 : (Cond.initialized (zCl.getD c9 zCd).1).before args s = true)
    (hr1 : zln (znew mm (c9, (zCl.getD c9 zCd).2.2) (List.replicate (zCl.getD c9 zCd).2.2 none)) - n0 ≤ R.cells) (hr2 : zsl (znew mm (c9, (zCl.getD c9 zCd).2.2) (List.replicate (zCl.getD c9 zCd).2.2 none)) - s0 ≤ R.slots)
    (kk : zW p l e R s m args below meth c Q y g n0 s0 (pc + 3) lv (.inr (.inr (some mm.1.length)) :: r) (znew mm (c9, (zCl.getD c9 zCd).2.2) (List.replicate (zCl.getD c9 zCd).2.2 none))) : zW p l e R s m args below meth c Q y g n0 s0 pc lv r mm := by
  intro H locs ls hl hR hS
  have hn0 := zRep_ge Cs hR hS
  have hK := (z_ownw C0).2.1
  rw [znew_ln] at hr1
  rw [znew_sl] at hr2
  refine va_new (D := gD g) (ci := c9) (fs := (List.range (zCl.getD c9 zCd).2.2).map (zfv g c9 (List.replicate (zCl.getD c9 zCd).2.2 none) (fun _ => 0))) C0.1 C0.2.1 (z_ownw C0).1 (z_lays hc) (zft c9) (zft_ok c9 hc) C0.2.2.2.2.2.1 h1 h2 h3 hK hR.1 (zD g mm) (va_S.here hS) (fun q hq => ?_) (zCl_at c9 hc) (fun j hj => ?_) (by omega) (by show zsl mm - s0 + (zCl.getD c9 zCd).2.2 ≤ _; have := hr2; dsimp only at this; omega) hd (fun q H1 hP hD hS1 => ?_)
  · have := hR.2.1
    show gB g ≤ q
    omega
  · have hz := zft_0 c9 hc j hj
    have hj : j < (zCl.getD c9 zCd).2.2 := hj
    have e0 : ((List.range (zCl.getD c9 zCd).2.2).map (zfv g c9 (List.replicate (zCl.getD c9 zCd).2.2 none) (fun _ => 0))).getD j .null = zfv g c9 (List.replicate (zCl.getD c9 zCd).2.2 none) (fun _ => 0) j := by
      rw [List.getD_eq_getElem?_getD, List.getElem?_map, List.getElem?_range hj]
      rfl
    unfold vp_V
    rw [e0]
    unfold zfv
    have hcase : zty c9 j = 0 ∨ zty c9 j = 1 ∨ zty c9 j = 2 ∨ zty c9 j = 3 := by have := hz.2.2.2.2.1; omega
    rcases hcase with h | h | h | h
    · rw [hz.1 h, h]; rfl
    · rw [hz.2.1 h, h]; rfl
    · rw [hz.2.2.1 h, h]; rfl
    · have hr := hz.2.2.2.1 h
      rw [h]
      have e1 : (List.replicate (zCl.getD c9 zCd).2.2 (none : Option Nat)).getD j none = none := by
        rw [List.getD_eq_getElem?_getD, List.getElem?_replicate]
        split <;> rfl
      dsimp only
      rw [e1]
      revert hr
      cases zft c9 j <;> intro hr <;> first | rfl | cases hr
  · refine z_made (sh := (c9, (zCl.getD c9 zCd).2.2)) (rs := List.replicate (zCl.getD c9 zCd).2.2 none) Cs hs0 hl hR hS kk ?_ hP hD hS1
    unfold zcell
    rw [if_pos hc]
theorem z_tyK {cA : ClassId} {ty : FieldType} {i : Nat} (hi : (ztys g)[i]? = some (gK g i, ty)) (h : va_K (gD g) zCl (ztys g) s) (h2 : va_K (gD g) zCl (ztys g ++ [(cA, ty)]) s) : cA = gK g i := by
  have e1 := (h.2 i _ hi).2
  have e2 := (h2.2 5 (cA, ty) rfl).2
  cases ty with
  | object C =>
    obtain ⟨_, _, -, -, -, a1⟩ := e1
    obtain ⟨_, _, -, -, -, a2⟩ := e2
    exact Option.some.inj (a2.symm.trans a1)
  | _ => exact Option.some.inj (Eq.trans (Eq.symm e2) e1)
theorem s_newarray (C0 : zCX p R s m args meth c y d g) (Cs : s.heap.size = gB g + (n0 - 2) ∧ 2 ≤ n0) (hs0 : s0 ≤ zsl mm) {t : ArrayType} {cc : Nat} {n : Int} (hd : decode (zM_ y).2.1 pc = .ok (.newarray t, 2)) (hw : (Cond.arrayClass (newarray.typeOf t)).before args s = true)
    (hcc : newarray.typeOf t = .int ∧ cc = 100 ∨ newarray.typeOf t = .byte ∧ cc = 101 ∨ newarray.typeOf t = .boolean ∧ cc = 102) (h0 : 0 ≤ n32 n) (h1 : n32 n ≤ 1000)
    (hr1 : zln (znew mm (cc, (n32 n).toNat) []) - n0 ≤ R.cells) (hr2 : zsl (znew mm (cc, (n32 n).toNat) []) - s0 ≤ R.slots)
    (kk : zW p l e R s m args below meth c Q y g n0 s0 (pc + 2) lv (.inr (.inr (some mm.1.length)) :: r) (znew mm (cc, (n32 n).toNat) [])) : zW p l e R s m args below meth c Q y g n0 s0 pc lv (.inl n :: r) mm := by
  intro H locs ls hl hR hS
  have hn0 := zRep_ge Cs hR hS
  have hK := (z_ownw C0).2.1
  rw [znew_ln] at hr1
  rw [znew_sl] at hr2
  dsimp only at hr2
  have hA : ∀ q, H.size ≤ q → zA g q := fun q hq => by
    have := hR.2.1
    show gB g ≤ q
    omega
  have hcc3 : cc = 100 ∨ cc = 101 ∨ cc = 102 := by
    rcases hcc with h | h | h
    · exact Or.inl h.2
    · exact Or.inr (Or.inl h.2)
    · exact Or.inr (Or.inr h.2)
  have hneg : ¬ Int32.ofInt n < 0 := fun q => by
    have q2 : n32 n < n32 0 := (i32_lt n 0).mp q
    rw [n32_0] at q2
    omega
  have hbig : (n32 n).toNat ≤ 1000 := by omega
  have fin : ∀ (ty : FieldType) (i : Nat), (ztys g)[i]? = some (gK g i, ty) → cc = 100 + i → ∀ (q : Nat) (cA : ClassId) (H1 : Heap), va_K (gD g) zCl (ztys g ++ [(cA, ty)]) s → va_P (gD g) zCl (zws g mm ++ [(q, .inl (cA, (n32 n).toNat, .inl (fun _ => 0)))]) H1 → va_D (zA g) (zws g mm ++ [(q, .inl (cA, (n32 n).toNat, .inl (fun _ => 0)))]) → va_S (zA g) H H1 locs → W p l e R s m args below meth c H1 locs (zln mm - n0 + 1) (zsl mm - s0 + (n32 n).toNat) Q (F0 m (pc + 2) ls (.ref q :: r.map (mv g))) := by
    intro ty i hi hi2 q cA H1 hK1 hP hD hS1
    have e := z_tyK hi hK hK1
    subst e
    refine z_made (sh := (cc, (n32 n).toNat)) (rs := []) Cs hs0 hl hR hS kk ?_ hP hD hS1
    rw [zcl_i hcc3, show cc - 100 = i by omega]
    rfl
  rcases hcc with ⟨ht, rfl⟩ | ⟨ht, rfl⟩ | ⟨ht, rfl⟩
  · exact va_newa (D := gD g) (ty := .int) (a0 := ((n32 n).toNat, .inl (fun _ => 0))) C0.1 C0.2.1 hw ht hK hR.1 (zD g mm) (va_S.here hS) hA (fun cA => rfl) hneg rfl (by show _ * 4 ≤ _; omega) (by omega) (by omega) hd (fin _ 0 rfl rfl)
  · exact va_newa (D := gD g) (ty := .byte) (a0 := ((n32 n).toNat, .inl (fun _ => 0))) C0.1 C0.2.1 hw ht hK hR.1 (zD g mm) (va_S.here hS) hA (fun cA => rfl) hneg rfl (by show _ * 1 ≤ _; omega) (by omega) (by omega) hd (fin _ 1 rfl rfl)
  · exact va_newa (D := gD g) (ty := .boolean) (a0 := ((n32 n).toNat, .inl (fun _ => 0))) C0.1 C0.2.1 hw ht hK hR.1 (zD g mm) (va_S.here hS) hA (fun cA => rfl) hneg rfl (by show _ * 1 ≤ _; omega) (by omega) (by omega) hd (fin _ 2 rfl rfl)
theorem s_anewarray (C0 : zCX p R s m args meth c y d g) (Cs : s.heap.size = gB g + (n0 - 2) ∧ 2 ≤ n0) (hs0 : s0 ≤ zsl mm) {ix : Nat} {n : Int} (hd : decode (zM_ y).2.1 pc = .ok (.anewarray ix, 3)) (hw : (Cond.classLink (zM_ y).1.cls ix "EdgeJoin$State").before args s = true) (h0 : 0 ≤ n32 n) (h1 : n32 n ≤ 1000)
    (hr1 : zln (znew mm (104, (n32 n).toNat) (List.replicate (n32 n).toNat none)) - n0 ≤ R.cells) (hr2 : zsl (znew mm (104, (n32 n).toNat) (List.replicate (n32 n).toNat none)) - s0 ≤ R.slots)
    (kk : zW p l e R s m args below meth c Q y g n0 s0 (pc + 3) lv (.inr (.inr (some mm.1.length)) :: r) (znew mm (104, (n32 n).toNat) (List.replicate (n32 n).toNat none))) : zW p l e R s m args below meth c Q y g n0 s0 pc lv (.inl n :: r) mm := by
  intro H locs ls hl hR hS
  have hn0 := zRep_ge Cs hR hS
  have hK := (z_ownw C0).2.1
  rw [znew_ln] at hr1
  rw [znew_sl] at hr2
  dsimp only at hr2
  have hA : ∀ q, H.size ≤ q → zA g q := fun q hq => by
    have := hR.2.1
    show gB g ≤ q
    omega
  have hneg : ¬ Int32.ofInt n < 0 := fun q => by
    have q2 : n32 n < n32 0 := (i32_lt n 0).mp q
    rw [n32_0] at q2
    omega
  have hbig : (n32 n).toNat ≤ 1000 := by omega
  refine va_newq (D := gD g) C0.1 C0.2.1 C0.2.2.2.2.2.1 hw (z_ownw C0).2.2.2.1 hK hR.1 (zD g mm) (va_S.here hS) hA hneg (N' := (n32 n).toNat) rfl (by omega) (by omega) (by omega) hd (fun q cA H1 hK1 hP hD hS1 => ?_)
  have e := z_tyK (i := 4) rfl hK hK1
  subst e
  refine z_made (sh := (104, (n32 n).toNat)) (rs := List.replicate (n32 n).toNat none) Cs hs0 hl hR hS kk ?_ hP hD hS1
  rw [zcl_q (Or.inr rfl)]
  congr 7
  funext j
  rw [List.getD_eq_getElem?_getD, List.getElem?_replicate]
  split <;> rfl
theorem s_objInit (C0 : zCX p R s m args meth c y d g) {ix a : Nat} (hd : decode (zM_ y).2.1 pc = .ok (.invokespecial ix, 3)) (hd1 : 1 ≤ d) (hcats : zcats r ≤ 8)
    (h1 : (Cond.methodLink (zM_ y).1.cls ix Lib.objectInit).before args s = true) (h2 : (Cond.instanceMethod Lib.objectInit).before args s = true) (h3 : (Cond.code Lib.objectInit ⟨#[0xb1]⟩ 1 none).before args s = true)
    (kk : zW p l e R s m args below meth c Q y g n0 s0 (pc + 3) lv r mm) : zW p l e R s m args below meth c Q y g n0 s0 pc lv (.inr (.inr (some a)) :: r) mm := by
  intro H locs ls hl hR hS
  obtain ⟨f1, f2⟩ := C0.2.2.2.2.2.2.2.2.2
  refine W.objInit C0.1 C0.2.1 C0.2.2.2.2.2.1 h1 h2 h3 rfl ?_ rfl hd (by omega) ?_ (kk H locs ls hl hR hS)
  · show ls.size = _
    rw [hl.1, C0.2.2.1]
  · show 2 * 0 + _ + 12 ≤ _
    rw [mv_cats]
    omega
theorem s_abs (C0 : zCX p R s m args meth c y d g) {ix : Nat} {x : Int} (hd : decode (zM_ y).2.1 pc = .ok (.invokestatic ix, 3)) (hd1 : 1 ≤ d) (hcats : zcats r ≤ 8) (hr1 : zln mm - n0 ≤ R.cells) (hr2 : zsl mm - s0 ≤ R.slots)
    (h1 : (Cond.methodLink (zM_ y).1.cls ix Lib.Math.abs.name).before args s = true) (h2 : (Cond.static Lib.Math.abs.name).before args s = true) (h3 : (Cond.initialized "java/lang/Math").before args s = true) (h4 : (Cond.code Lib.Math.abs.name Lib.Math.abs.code 1 (some .int)).before args s = true)
    (kk : zW p l e R s m args below meth c Q y g n0 s0 (pc + 3) lv (.inl (zabs x) :: r) mm) : zW p l e R s m args below meth c Q y g n0 s0 pc lv (.inl x :: r) mm := by
  intro H locs ls hl hR hS
  obtain ⟨f1, f2⟩ := C0.2.2.2.2.2.2.2.2.2
  refine va_mabs C0.1 C0.2.1 (by rw [hl.1, C0.2.2.1]) C0.2.2.2.2.2.1 h1 h2 h3 h4 (by omega) (by rw [mv_cats]; omega) hr1 hr2 hd ?_
  have h9 := kk H locs ls hl hR hS
  simp only [zabs, List.map_cons, mv, Int32.ofInt_toInt] at h9
  exact h9
theorem s_min (C0 : zCX p R s m args meth c y d g) {ix : Nat} {x w : Int} (hd : decode (zM_ y).2.1 pc = .ok (.invokestatic ix, 3)) (hd1 : 1 ≤ d) (hcats : zcats r ≤ 8) (hr1 : zln mm - n0 ≤ R.cells) (hr2 : zsl mm - s0 ≤ R.slots)
    (h1 : (Cond.methodLink (zM_ y).1.cls ix Lib.Math.min.name).before args s = true) (h2 : (Cond.static Lib.Math.min.name).before args s = true) (h3 : (Cond.initialized "java/lang/Math").before args s = true) (h4 : (Cond.code Lib.Math.min.name Lib.Math.min.code 2 (some .int)).before args s = true)
    (kk : zW p l e R s m args below meth c Q y g n0 s0 (pc + 3) lv (.inl (zmin x w) :: r) mm) : zW p l e R s m args below meth c Q y g n0 s0 pc lv (.inl w :: .inl x :: r) mm := by
  intro H locs ls hl hR hS
  obtain ⟨f1, f2⟩ := C0.2.2.2.2.2.2.2.2.2
  refine va_mmin C0.1 C0.2.1 (by rw [hl.1, C0.2.2.1]) C0.2.2.2.2.2.1 h1 h2 h3 h4 (by omega) (by rw [mv_cats]; omega) hr1 hr2 hd ?_
  have h9 := kk H locs ls hl hR hS
  have e : (if Int32.ofInt w < Int32.ofInt x then Int32.ofInt w else Int32.ofInt x) = Int32.ofInt (zmin x w) := by
    unfold zmin
    simp only [i32_lt]
    split <;> rfl
  rw [e]
  exact h9
theorem z_arrOK {i : Nat} {ty : FieldType} (hK : va_K (gD g) zCl (ztys g) s) (hi : (ztys g)[i]? = some (gK g i, ty)) : ArrOfT s (gK g i) ty := (hK.2 i _ hi).1
theorem s_aaload (C0 : zCX p R s m args meth c y d g) {cc n a : Nat} {i : Int} (hd : decode (zM_ y).2.1 pc = .ok (.aaload, 1)) (hcc : cc = 103 ∨ cc = 104) (ha : 2 ≤ a) (hs : mm.1[a]? = some (cc, n)) (h0 : 0 ≤ n32 i) (h1 : n32 i < n)
    (kk : zW p l e R s m args below meth c Q y g n0 s0 (pc + 1) lv (.inr (.inr ((mm.2.1.getD a []).getD (n32 i).toNat none)) :: r) mm) : zW p l e R s m args below meth c Q y g n0 s0 pc lv (.inl i :: .inr (.inr (some a)) :: r) mm := by
  intro H locs ls hl hR hS
  have h9 := kk H locs ls hl hR hS
  have hK := (z_ownw C0).2.1
  have he := zws_get (g := g) ha hs
  rw [zcl_q hcc] at he
  have hin := zvp h0 h1
  have hlt : (Int32.ofInt i).toNatClampNeg < n := Nat.not_le.mp fun q => hin (Or.inr q)
  have hA : ArrOfT s (gK g (cc - 100)) (if cc = 103 then .array .int else .object "EdgeJoin$State") := by
    rcases hcc with rfl | rfl
    · exact z_arrOK hK (i := 3) rfl
    · exact z_arrOK hK (i := 4) rfl
  refine W.aald (v := mv g (.inr (.inr ((mm.2.1.getD a []).getD (n32 i).toNat none)))) C0.1 C0.2.1 (hR.1 _ _ he) (hA n (fun j => va_rf (((mm.2.1.getD a []).getD j none).map (zad g)))) (by split <;> rfl) (fun q => by cases q) (by show ¬ (_ ∨ (arrV _ _ _).slots.size ≤ _); rw [arrV_size]; exact hin) (by show (arrV _ _ _).slots[_]? = _; rw [arrV_read _ _ hlt]; rfl) rfl rfl hd h9
theorem s_aastore (C0 : zCX p R s m args meth c y d g) (Cs : s.heap.size = gB g + (n0 - 2) ∧ 2 ≤ n0) {n nb a b : Nat} {i : Int} (hd : decode (zM_ y).2.1 pc = .ok (.aastore, 1)) (ha : 2 ≤ a) (hb : 2 ≤ b) (hs : mm.1[a]? = some (104, n)) (hsb : mm.1[b]? = some (5, nb)) (h0 : 0 ≤ n32 i) (h1 : n32 i < n) (hlen : mm.2.1.length = mm.1.length → (n32 i).toNat < (mm.2.1.getD a []).length)
    (kk : zW p l e R s m args below meth c Q y g n0 s0 (pc + 1) lv r (mm.1, mm.2.1.set a ((mm.2.1.getD a []).set (n32 i).toNat (some b)), mm.2.2)) : zW p l e R s m args below meth c Q y g n0 s0 pc lv (.inr (.inr (some b)) :: .inl i :: .inr (.inr (some a)) :: r) mm := by
  intro H locs ls hl hR hS
  have hK := (z_ownw C0).2.1
  have he := zws_get (g := g) ha hs
  rw [zcl_q (Or.inr rfl)] at he
  have hev := zws_get (g := g) hb hsb
  have hev2 : (zws g mm)[b - 2]? = some (zad g b, .inr (5, (List.range nb).map (zfv g 5 (mm.2.1.getD b []) (mm.2.2 b)))) := by
    rw [hev]
    unfold zcell
    rw [if_pos (show (5 : Nat) < 8 by decide)]
  have hla : a < mm.2.1.length := by
    rw [hR.2.2.1]
    exact (List.getElem?_eq_some_iff.mp hs).1
  have hl2 := hlen hR.2.2.1
  refine va_astq (D := gD g) (r := ((zCl.getD 5 zCd).1, (zCl.getD 5 zCd).2.1, zN 5)) C0.1 C0.2.1 hK hR.1 (zD g mm) (va_S.here hS) (a - 2) 4 (b - 2) 5 he rfl hev2 (zCl_at 5 (by decide)) (zvp h0 h1) hd (fun H1 locs1 hP hD hS1 => ?_)
  have eg : ∀ q, (mm.2.1.set a ((mm.2.1.getD a []).set (n32 i).toNat (some b))).getD q [] = if q = a then (mm.2.1.getD a []).set (n32 i).toNat (some b) else mm.2.1.getD q [] := fun q => by
    by_cases h : q = a
    · subst h
      rw [if_pos rfl, List.getD_eq_getElem?_getD, List.getElem?_set_self hla]
      rfl
    · rw [if_neg h, List.getD_eq_getElem?_getD, List.getElem?_set_ne (Ne.symm h), ← List.getD_eq_getElem?_getD]
  refine z_wrote (m' := (mm.1, mm.2.1.set a ((mm.2.1.getD a []).set (n32 i).toNat (some b)), mm.2.2)) Cs hl hR hS ha rfl (by simp) (fun q hq => rfl) kk (zws_set (m' := (mm.1, mm.2.1.set a ((mm.2.1.getD a []).set (n32 i).toNat (some b)), mm.2.2)) ha hs rfl (fun q hq => ⟨by rw [eg, if_neg hq], rfl⟩) ?_) hP hS1
  rw [zcl_q (Or.inr rfl), eg, if_pos rfl]
  congr 7
  funext j
  unfold va_up
  rw [zcl]
  by_cases hj : j = (n32 i).toNat
  · subst hj
    rw [if_pos rfl, List.getD_eq_getElem?_getD, List.getElem?_set_self hl2]
    rfl
  · rw [if_neg hj, List.getD_eq_getElem?_getD (l := List.set _ _ _), List.getElem?_set_ne (Ne.symm hj), ← List.getD_eq_getElem?_getD]
theorem cpy_of (f h : Nat → Int) (sp dp n q : Nat) : va_cpy (fun j => Int32.ofInt (f j)) (fun j => Int32.ofInt (h j)) sp dp n q = Int32.ofInt (va_cpy f h sp dp n q) := by
  unfold va_cpy
  split <;> rfl
theorem nfw20 : nativeFrameWords "java/lang/System" "arraycopy" 5 ≤ 20 := by decide +kernel
theorem s_arraycopy (C0 : zCX p R s m args meth c y d g) (Cs : s.heap.size = gB g + (n0 - 2) ∧ 2 ≤ n0) {ix a b na nb : Nat} {sp dp n : Int} (hd : decode (zM_ y).2.1 pc = .ok (.invokestatic ix, 3)) (hd1 : 1 ≤ d) (hcats : zcats r ≤ 8) (ha : 2 ≤ a) (hb : 2 ≤ b) (hsa : mm.1[a]? = some (100, na)) (hsb : mm.1[b]? = some (100, nb))
    (c1 : 0 ≤ n32 sp) (c2 : 0 ≤ n32 dp) (c3 : 0 ≤ n32 n) (c4 : n32 sp + n32 n ≤ na) (c5 : n32 dp + n32 n ≤ nb)
    (h1 : (Cond.methodLink (zM_ y).1.cls ix arraycopyName).before args s = true) (h2 : (Cond.native arraycopyName).before args s = true) (h3 : (Cond.static arraycopyName).before args s = true) (h4 : (Cond.initialized "java/lang/System").before args s = true)
    (kk : zW p l e R s m args below meth c Q y g n0 s0 (pc + 3) lv r (mm.1, mm.2.1, fun q => if q = b then va_cpy (mm.2.2 a) (mm.2.2 b) (n32 sp).toNat (n32 dp).toNat (n32 n).toNat else mm.2.2 q)) :
    zW p l e R s m args below meth c Q y g n0 s0 pc lv (.inl n :: .inl dp :: .inr (.inr (some b)) :: .inl sp :: .inr (.inr (some a)) :: r) mm := by
  intro H locs ls hl hR hS
  have hK := (z_ownw C0).2.1
  obtain ⟨f1, f2⟩ := C0.2.2.2.2.2.2.2.2.2
  have hea := zws_get (g := g) ha hsa
  rw [zcl_i (Or.inl rfl)] at hea
  have heb := zws_get (g := g) hb hsb
  rw [zcl_i (Or.inl rfl)] at heb
  have neg : ∀ {x : Int}, 0 ≤ n32 x → ¬ Int32.ofInt x < 0 := fun {x} h q => by
    have q2 : n32 x < n32 0 := (i32_lt x 0).mp q
    rw [n32_0] at q2
    omega
  refine va_copyi (D := gD g) C0.1 C0.2.1 (by rw [hl.1, C0.2.2.1]) C0.2.2.2.2.2.1 h1 h2 h3 h4 hK hR.1 (zD g mm) (va_S.here hS) (a - 2) (b - 2) 0 0 (ty := .int) hea heb rfl rfl rfl (neg c1) (neg c2) (neg c3) (by show (n32 sp).toNat + (n32 n).toNat ≤ na; omega) (by show (n32 dp).toNat + (n32 n).toNat ≤ nb; omega) (fun _ _ => rfl) (by omega) (by rw [mv_cats]; have e9 := nfw20; omega) hd (fun H1 locs1 hP hD hS1 => ?_)
  refine z_wrote (m' := (mm.1, mm.2.1, fun q => if q = b then va_cpy (mm.2.2 a) (mm.2.2 b) (n32 sp).toNat (n32 dp).toNat (n32 n).toNat else mm.2.2 q)) Cs hl hR hS hb rfl rfl (fun q hq => by simp [hq]) kk (zws_set (m' := (mm.1, mm.2.1, fun q => if q = b then va_cpy (mm.2.2 a) (mm.2.2 b) (n32 sp).toNat (n32 dp).toNat (n32 n).toNat else mm.2.2 q)) hb hsb rfl (fun q hq => ⟨rfl, by simp [hq]⟩) ?_) hP hS1
  rw [zcl_i (Or.inl rfl)]
  congr 4
  funext q
  simp only [if_true]
  exact cpy_of _ _ _ _ _ q
end ZM
