/-! the instructions over cells -/
def zN (c : Nat) : Nat := (zCl.getD c zCd).2.2
theorem zCl_at : ∀ c, c < 8 → zCl[c]? = some ((zCl.getD c zCd).1, (zCl.getD c zCd).2.1, zN c) := by
  intro c hc
  have : c = 0 ∨ c = 1 ∨ c = 2 ∨ c = 3 ∨ c = 4 ∨ c = 5 ∨ c = 6 ∨ c = 7 := by omega
  rcases this with rfl | rfl | rfl | rfl | rfl | rfl | rfl | rfl <;> rfl
/-- the type of a field as the machine has it -/
def zft (c k : Nat) : FieldType := match c with
  | 0 => tyX0 k
  | 1 => tyX1 k
  | 2 => tyX2 k
  | 3 => tyX3 k
  | 4 => tyX4 k
  | 5 => tyX5 k
  | 6 => tyX6 k
  | 7 => tyX7 k
  | _ => tyX8 k
set_option maxRecDepth 100000 in
theorem zft_ok : ∀ c, c < 8 → ∀ k, k < zN c → parseFieldDescriptor (zF c k).2.2.1 = some (zft c k) := by decide +kernel
set_option maxRecDepth 100000 in
theorem zfn_ok : ∀ c, c < 8 → ∀ a, a < zN c → ∀ b, b < zN c → a ≠ b → (zF c a).2.1 ≠ (zF c b).2.1 := by decide +kernel
set_option maxRecDepth 100000 in
theorem zfl_ok : ∀ c, c < 8 → ∀ w ∈ u_ws ((zCl.getD c zCd).1) ((zCl.getD c zCd).2.1) (zN c), w ∈ lw_tbl ∧ goodWord w = true := by decide +kernel
set_option maxRecDepth 100000 in
theorem zft_0 : ∀ c, c < 8 → ∀ k, k < zN c → (zty c k = 0 → zft c k = .int) ∧ (zty c k = 1 → zft c k = .boolean) ∧ (zty c k = 2 → zft c k = .long) ∧ (zty c k = 3 → refKind (zft c k) = true) ∧ zty c k < 4 ∧ (zF c k).1 = (zCl.getD c zCd).1 := by decide +kernel
section ZH
variable {p : Program} {l : Launch} {e : Env} {R : Room} {s : State} {m : MethodId} {args : Array Value} {below : List Frame} {meth : Method} {c : Code} {Q : State → Prop} {y d n0 s0 : Nat} {g : zG} {pc : Nat} {lv : zLv} {mm : zMem} {r : List zV}
theorem z_ownw (C0 : zCX p R s m args meth c y d g) : (∀ w ∈ zGood, w.before args s = true) ∧ zKW g s s.heap := ⟨C0.2.2.2.2.2.2.2.1, C0.2.2.2.2.2.2.2.2.1⟩
theorem z_lays {c9 : Nat} (hc : c9 < 8) : ∀ w ∈ u_ws ((zCl.getD c9 zCd).1) ((zCl.getD c9 zCd).2.1) (zN c9), w ∈ zGood := fun w hw => mem_zGood (zfl_ok c9 hc w hw).1 (zfl_ok c9 hc w hw).2
/-- what a field holds -/
noncomputable def zfval (mm : zMem) (a c9 k : Nat) : zV := match zty c9 k with
  | 3 => .inr (.inr ((mm.2.1.getD a []).getD k none))
  | 2 => .inr (.inl (mm.2.2 a k))
  | _ => .inl (mm.2.2 a k)
theorem zfval_mv {mm : zMem} {a c9 k : Nat} : mv g (zfval mm a c9 k) = zfv g c9 (mm.2.1.getD a []) (mm.2.2 a) k := by
  unfold zfval zfv
  split <;> simp_all [mv]
theorem s_getfield (C0 : zCX p R s m args meth c y d g) {ix c9 k n a : Nat} {kd : Nat} (hd : decode (zM_ y).2.1 pc = .ok (.getfield ix, 3)) (ha : 2 ≤ a) (hc : c9 < 8) (hk : k < n) (hn : k < zN c9) (hs : mm.1[a]? = some (c9, n))
    (hl1 : kd = 1 ∧ va_Nw (.fieldLinkNest (zM_ y).1.cls ix (zF c9 k).1 (zF c9 k).2.1 (zF c9 k).2.2.1 "EdgeJoin") s ∨ (Cond.fieldLink (zM_ y).1.cls ix (zF c9 k).1 (zF c9 k).2.1 (zF c9 k).2.2.1).before args s = true)
    (kk : zW p l e R s m args below meth c Q y g n0 s0 (pc + 3) lv (zfval mm a c9 k :: r) mm) : zW p l e R s m args below meth c Q y g n0 s0 pc lv (.inr (.inr (some a)) :: r) mm := by
  intro H locs ls hl hR hS
  have hK := (z_ownw C0).2.1
  have he : (zws g mm)[a - 2]? = some (zad g a, .inr (c9, (List.range n).map (zfv g c9 (mm.2.1.getD a []) (mm.2.2 a)))) := by
    rw [zws_get ha hs]
    unfold zcell
    rw [if_pos hc]
  have hv : ((List.range n).map (zfv g c9 (mm.2.1.getD a []) (mm.2.2 a)))[k]? = some (mv g (zfval mm a c9 k)) := by
    rw [List.getElem?_map, List.getElem?_range hk, zfval_mv]
    rfl
  have h9 := kk H locs ls hl hR hS
  rcases hl1 with ⟨-, hl1⟩ | hl1
  · exact va_getN (D := gD g) (ci := c9) C0.1 C0.2.1 (z_ownw C0).1 (z_lays hc) C0.2.2.2.2.2.1 hK hR.1 (a - 2) he (zCl_at c9 hc) k hn (va_Nw.use rfl hl1) (fun _ h => h) hv hd h9
  · exact va_get (D := gD g) (ci := c9) C0.1 C0.2.1 (z_ownw C0).1 (z_lays hc) C0.2.2.2.2.2.1 hK hR.1 (a - 2) he (zCl_at c9 hc) k hn hl1 (fun _ h => h) hv hd h9
theorem zRep.keep {m m' : zMem} {H H' : Heap} {a : Nat} (hR : zRep g m H) (ha : 2 ≤ a) (h1 : m'.1 = m.1) (h2 : m'.2.1.length = m.2.1.length) (ho : ∀ i, i ≠ a → m'.2.2 i = m.2.2 i) (hP : va_P (gD g) zCl (zws g m') H') (hz : H'.size = H.size) : zRep g m' H' := by
  obtain ⟨-, e1, e2, e3, e4, e5, e6⟩ := hR
  refine ⟨hP, by rw [hz, h1]; exact e1, by rw [h2, h1]; exact e2, by rw [h1]; exact e3, by rw [h1]; exact e4, fun j => ?_, fun j => ?_⟩
  · rw [ho 0 (by omega)]; exact e5 j
  · rw [ho 1 (by omega)]; exact e6 j
theorem W.bnd {H : Heap} {locs : List Loc} {cells slots : Nat} {gg : JFrame} (h : H.size ≤ s.heap.size + cells → W p l e R s m args below meth c H locs cells slots Q gg) : W p l e R s m args below meth c H locs cells slots Q gg := fun T hT X => h (by rw [← hT]; exact X.same.2.2.1) T hT X
theorem va_S.on {H H1 : Heap} {locs locs1 : List Loc} (h : va_S (zA g) s.heap H locs) (h1 : va_S (zA g) H H1 locs1) : va_S (zA g) s.heap H1 locs1 := ⟨Nat.le_trans h.1 h1.1, fun q a b => (h1.2.1 q (Nat.lt_of_lt_of_le a h.1) b).trans (h.2.1 q a b), h1.2.2⟩
theorem va_S.here {H : Heap} {locs : List Loc} (h : va_S (zA g) s.heap H locs) : va_S (zA g) H H locs := ⟨Nat.le_refl _, fun _ _ _ => rfl, h.2.2⟩
/-- behind a write: the cells are those of m' -/
theorem z_wrote {m' : zMem} {H : Heap} {locs : List Loc} {ls : Array Slot} {a : Nat} (Cs : s.heap.size = gB g + (n0 - 2) ∧ 2 ≤ n0) (hl : LH g ls (zM_ y).2.2.1 lv) (hR : zRep g mm H) (hS : va_S (zA g) s.heap H locs)
    (ha : 2 ≤ a) (h1 : m'.1 = mm.1) (h2 : m'.2.1.length = mm.2.1.length) (ho : ∀ i, i ≠ a → m'.2.2 i = mm.2.2 i) (k : zW p l e R s m args below meth c Q y g n0 s0 pc lv r m') {W1 : va_W} (eW : W1 = zws g m') {H1 : Heap} {locs1 : List Loc} (hP : va_P (gD g) zCl W1 H1) (hS1 : va_S (zA g) H H1 locs1) :
    W p l e R s m args below meth c H1 locs1 (zln mm - n0) (zsl mm - s0) Q (F0 m pc ls (r.map (mv g))) := by
  subst eW
  refine W.bnd fun hb => ?_
  have hz : H1.size = H.size := by
    have z1 := hR.2.1
    have z2 := hS.1
    have z3 := hS1.1
    unfold zln at hb
    omega
  have e1 : zln m' = zln mm := by unfold zln; rw [h1]
  have e2 : zsl m' = zsl mm := by unfold zsl; rw [h1]
  have h9 := k H1 locs1 ls hl (hR.keep ha h1 h2 ho hP hz) (va_S.on hS hS1)
  rw [e1, e2] at h9
  exact h9
theorem s_putfield (C0 : zCX p R s m args meth c y d g) (Cs : s.heap.size = gB g + (n0 - 2) ∧ 2 ≤ n0) {ix c9 k n a : Nat} {kd : Nat} {v : zV} {m' : zMem} (hd : decode (zM_ y).2.1 pc = .ok (.putfield ix, 3)) (ha : 2 ≤ a) (hc : c9 < 8) (hk : k < n) (hn : k < zN c9) (hs : mm.1[a]? = some (c9, n))
    (hl1 : kd = 2 ∧ (zF c9 k).2.2.2 = true ∧ (zM_ y).1.name = "<init>" ∧ (zM_ y).1.cls = (zCl.getD c9 zCd).1 ∧ (Cond.fieldLink (zM_ y).1.cls ix (zF c9 k).1 (zF c9 k).2.1 (zF c9 k).2.2.1).before args s = true ∨ (zF c9 k).2.2.2 = false ∧ (kd = 1 ∧ va_Nw (.fieldLinkNest (zM_ y).1.cls ix (zF c9 k).1 (zF c9 k).2.1 (zF c9 k).2.2.1 "EdgeJoin") s ∨ (Cond.fieldLink (zM_ y).1.cls ix (zF c9 k).1 (zF c9 k).2.1 (zF c9 k).2.2.1).before args s = true))
    (hnar : narrow (zft c9 k) (mv g v) = mv g v) (hfit : fits (zft c9 k) (mv g v) = true)
    (h1 : m'.1 = mm.1) (h2 : m'.2.1.length = mm.2.1.length) (ho : ∀ i, i ≠ a → m'.2.1.getD i [] = mm.2.1.getD i [] ∧ m'.2.2 i = mm.2.2 i)
    (hv : ((List.range n).map (zfv g c9 (mm.2.1.getD a []) (mm.2.2 a))).set k (mv g v) = (List.range n).map (zfv g c9 (m'.2.1.getD a []) (m'.2.2 a)))
    (kk : zW p l e R s m args below meth c Q y g n0 s0 (pc + 3) lv r m') : zW p l e R s m args below meth c Q y g n0 s0 pc lv (v :: .inr (.inr (some a)) :: r) mm := by
  intro H locs ls hl hR hS
  have hK := (z_ownw C0).2.1
  have he : (zws g mm)[a - 2]? = some (zad g a, .inr (c9, (List.range n).map (zfv g c9 (mm.2.1.getD a []) (mm.2.2 a)))) := by
    rw [zws_get ha hs]
    unfold zcell
    rw [if_pos hc]
  have e9 : (zws g mm).set (a - 2) (zad g a, .inr (c9, ((List.range n).map (zfv g c9 (mm.2.1.getD a []) (mm.2.2 a))).set k (mv g v))) = zws g m' := by
    refine zws_set ha hs h1 ho ?_
    unfold zcell
    rw [if_pos hc, hv]
  have hlen : k < ((List.range n).map (zfv g c9 (mm.2.1.getD a []) (mm.2.2 a))).length := by simp [hk]
  have hSh := va_S.here hS
  rcases hl1 with ⟨-, hf, hi, hcl, hl1⟩ | ⟨hf, ⟨-, hl1⟩ | hl1⟩
  · exact va_putF (D := gD g) (ci := c9) C0.1 C0.2.1 (z_ownw C0).1 (z_lays hc) (zft c9) (zft_ok c9 hc) (zfn_ok c9 hc) C0.2.2.2.2.2.1 hK hR.1 (zD g mm) hSh (a - 2) he (zCl_at c9 hc) k hn hl1 (fun _ h => h) hf (C0.2.2.2.2.2.2.1.trans hi) ((zft_0 c9 hc k hn).2.2.2.2.2.trans hcl.symm) (zft_ok c9 hc k hn) hnar hfit hlen hd (fun H1 locs1 hP hD hS1 => z_wrote Cs hl hR hS ha h1 h2 (fun i hi => (ho i hi).2) kk e9 hP hS1)
  · exact va_putN (D := gD g) (ci := c9) C0.1 C0.2.1 (z_ownw C0).1 (z_lays hc) (zft c9) (zft_ok c9 hc) (zfn_ok c9 hc) C0.2.2.2.2.2.1 hK hR.1 (zD g mm) hSh (a - 2) he (zCl_at c9 hc) k hn (va_Nw.use rfl hl1) (fun _ h => h) hf (zft_ok c9 hc k hn) hnar hfit hlen hd (fun H1 locs1 hP hD hS1 => z_wrote Cs hl hR hS ha h1 h2 (fun i hi => (ho i hi).2) kk e9 hP hS1)
  · exact va_put (D := gD g) (ci := c9) C0.1 C0.2.1 (z_ownw C0).1 (z_lays hc) (zft c9) (zft_ok c9 hc) (zfn_ok c9 hc) C0.2.2.2.2.2.1 hK hR.1 (zD g mm) hSh (a - 2) he (zCl_at c9 hc) k hn hl1 (fun _ h => h) hf (zft_ok c9 hc k hn) hnar hfit hlen hd (fun H1 locs1 hP hD hS1 => z_wrote Cs hl hR hS ha h1 h2 (fun i hi => (ho i hi).2) kk e9 hP hS1)
theorem s_getstatic (C0 : zCX p R s m args meth c y d g) {ix : Nat} (hd : decode (zM_ y).2.1 pc = .ok (.getstatic ix, 3)) (hl1 : va_Nw (.fieldLinkNest (zM_ y).1.cls ix "EdgeJoin" "RIM" "[I" "EdgeJoin") s ∨ (Cond.fieldLink (zM_ y).1.cls ix "EdgeJoin" "RIM" "[I").before args s = true)
    (kk : zW p l e R s m args below meth c Q y g n0 s0 (pc + 3) lv (.inr (.inr (some 0)) :: r) mm) : zW p l e R s m args below meth c Q y g n0 s0 pc lv r mm := by
  intro H locs ls hl hR hS
  have hZ := (z_ownw C0).2.2.2.2.2.1
  have h9 := kk H locs ls hl hR hS
  rcases hl1 with hl1 | hl1
  · exact va_getsN C0.1 C0.2.1 hZ hS C0.2.2.2.2.2.1 (va_Nw.use rfl hl1) (fun _ h => h) hd h9
  · exact va_gets C0.1 C0.2.1 hZ hS C0.2.2.2.2.2.1 hl1 (fun _ h => h) hd h9
theorem zcl_i {sh : Nat × Nat} (h : sh.1 = 100 ∨ sh.1 = 101 ∨ sh.1 = 102) (rs : List (Option Nat)) (f : Nat → Int) : zcell g sh rs f = .inl (gK g (sh.1 - 100), sh.2, .inl (fun j => Int32.ofInt (f j))) := by
  unfold zcell
  rw [if_neg (by omega), if_pos (by omega)]
theorem zcl_q {sh : Nat × Nat} (h : sh.1 = 103 ∨ sh.1 = 104) (rs : List (Option Nat)) (f : Nat → Int) : zcell g sh rs f = .inl (gK g (sh.1 - 100), sh.2, .inr (.inr (.inr (.inr (fun j => (rs.getD j none).map (zad g)))))) := by
  unfold zcell
  rw [if_neg (by omega), if_neg (by omega)]
theorem s_iaload (C0 : zCX p R s m args meth c y d g) {n a : Nat} {i : Int} (hd : decode (zM_ y).2.1 pc = .ok (.iaload, 1)) (hs : mm.1[a]? = some (100, n)) (h0 : 0 ≤ n32 i) (h1 : n32 i < n)
    (kk : zW p l e R s m args below meth c Q y g n0 s0 (pc + 1) lv (.inl (mm.2.2 a (n32 i).toNat) :: r) mm) : zW p l e R s m args below meth c Q y g n0 s0 pc lv (.inl i :: .inr (.inr (some a)) :: r) mm := by
  intro H locs ls hl hR hS
  have h9 := kk H locs ls hl hR hS
  have hA : ∀ q, q < gB g → ¬ zA g q := fun q h => Nat.not_le.mpr h
  obtain ⟨hk1, hk2, hk3, hk4, hk5, hk6, hk7, hk8, hk9, hk10⟩ := (z_ownw C0).2
  by_cases ha : a = 0
  · subst ha
    have e := hR.2.2.2.1.symm.trans hs
    cases e
    refine va_sld C0.1 C0.2.1 hk6 (Nat.lt_of_lt_of_le hk8 hk10) (hA _ hk8) hS (zvp h0 h1) hd ?_
    rw [← hR.2.2.2.2.2.1]
    exact h9
  · by_cases ha1 : a = 1
    · subst ha1
      have e := hR.2.2.2.2.1.symm.trans hs
      cases e
      refine va_sld C0.1 C0.2.1 hk7 (Nat.lt_of_lt_of_le hk9 hk10) (hA _ hk9) hS (zvp h0 h1) hd ?_
      rw [← hR.2.2.2.2.2.2]
      exact h9
    · have he := zws_get (g := g) (by omega) hs
      rw [zcl_i (Or.inl rfl)] at he
      exact va_iald (D := gD g) C0.1 C0.2.1 hk1 hR.1 (a - 2) 0 he rfl (zvp h0 h1) hd h9
theorem s_arraylength (C0 : zCX p R s m args meth c y d g) {n a : Nat} (hd : decode (zM_ y).2.1 pc = .ok (.arraylength, 1)) (hs : mm.1[a]? = some (100, n))
    (kk : zW p l e R s m args below meth c Q y g n0 s0 (pc + 1) lv (.inl (n : Int) :: r) mm) : zW p l e R s m args below meth c Q y g n0 s0 pc lv (.inr (.inr (some a)) :: r) mm := by
  intro H locs ls hl hR hS
  have h9 := kk H locs ls hl hR hS
  have hA : ∀ q, q < gB g → ¬ zA g q := fun q h => Nat.not_le.mpr h
  obtain ⟨hk1, hk2, hk3, hk4, hk5, hk6, hk7, hk8, hk9, hk10⟩ := (z_ownw C0).2
  have e9 : Int32.ofNat n = Int32.ofInt (n : Int) := rfl
  by_cases ha : a = 0
  · subst ha
    have e := hR.2.2.2.1.symm.trans hs
    cases e
    exact va_slen C0.1 C0.2.1 hk6 (Nat.lt_of_lt_of_le hk8 hk10) (hA _ hk8) hS hd h9
  · by_cases ha1 : a = 1
    · subst ha1
      have e := hR.2.2.2.2.1.symm.trans hs
      cases e
      exact va_slen C0.1 C0.2.1 hk7 (Nat.lt_of_lt_of_le hk9 hk10) (hA _ hk9) hS hd h9
    · have he := zws_get (g := g) (by omega) hs
      rw [zcl_i (Or.inl rfl)] at he
      exact va_alen (D := gD g) C0.1 C0.2.1 hk1 hR.1 (a - 2) 0 he rfl e9 hd h9
theorem s_baload (C0 : zCX p R s m args meth c y d g) {cc n a : Nat} {i : Int} (hd : decode (zM_ y).2.1 pc = .ok (.baload, 1)) (hcc : cc = 101 ∨ cc = 102) (ha : 2 ≤ a) (hs : mm.1[a]? = some (cc, n)) (h0 : 0 ≤ n32 i) (h1 : n32 i < n)
    (kk : zW p l e R s m args below meth c Q y g n0 s0 (pc + 1) lv (.inl (mm.2.2 a (n32 i).toNat) :: r) mm) : zW p l e R s m args below meth c Q y g n0 s0 pc lv (.inl i :: .inr (.inr (some a)) :: r) mm := by
  intro H locs ls hl hR hS
  have h9 := kk H locs ls hl hR hS
  have hK := (z_ownw C0).2.1
  have he := zws_get (g := g) ha hs
  rw [zcl_i (Or.inr hcc)] at he
  rcases hcc with rfl | rfl
  · exact va_bald (D := gD g) C0.1 C0.2.1 hK hR.1 (a - 2) 1 he rfl (zvp h0 h1) hd h9
  · exact va_zald (D := gD g) C0.1 C0.2.1 hK hR.1 (a - 2) 2 he rfl (zvp h0 h1) hd h9
theorem s_iastore (C0 : zCX p R s m args meth c y d g) (Cs : s.heap.size = gB g + (n0 - 2) ∧ 2 ≤ n0) {n a : Nat} {i x : Int} (hd : decode (zM_ y).2.1 pc = .ok (.iastore, 1)) (ha : 2 ≤ a) (hs : mm.1[a]? = some (100, n)) (h0 : 0 ≤ n32 i) (h1 : n32 i < n)
    (kk : zW p l e R s m args below meth c Q y g n0 s0 (pc + 1) lv r (mm.1, mm.2.1, zup2 mm.2.2 a (n32 i).toNat x)) : zW p l e R s m args below meth c Q y g n0 s0 pc lv (.inl x :: .inl i :: .inr (.inr (some a)) :: r) mm := by
  intro H locs ls hl hR hS
  have hK := (z_ownw C0).2.1
  have he := zws_get (g := g) ha hs
  rw [zcl_i (Or.inl rfl)] at he
  refine va_iast (D := gD g) C0.1 C0.2.1 hK hR.1 (zD g mm) (va_S.here hS) (a - 2) 0 he rfl (zvp h0 h1) hd (fun H1 locs1 hP hD hS1 => ?_)
  refine z_wrote (m' := (mm.1, mm.2.1, zup2 mm.2.2 a (n32 i).toNat x)) Cs hl hR hS ha rfl rfl (fun q hq => by simp [zup2, hq]) kk (zws_set (m' := (mm.1, mm.2.1, zup2 mm.2.2 a (n32 i).toNat x)) ha hs rfl (fun q hq => ⟨rfl, by simp [zup2, hq]⟩) ?_) hP hS1
  rw [zcl_i (Or.inl rfl)]
  congr 4
  funext q
  by_cases h9 : q = (n32 i).toNat <;> simp [upd, zup2, zup, zcl, h9]
theorem s_bastore (C0 : zCX p R s m args meth c y d g) (Cs : s.heap.size = gB g + (n0 - 2) ∧ 2 ≤ n0) {cc n a : Nat} {i x : Int} (hd : decode (zM_ y).2.1 pc = .ok (.bastore, 1)) (hcc : cc = 101 ∧ -128 ≤ n32 x ∧ n32 x < 128 ∨ cc = 102 ∧ (n32 x = 0 ∨ n32 x = 1)) (ha : 2 ≤ a) (hs : mm.1[a]? = some (cc, n)) (h0 : 0 ≤ n32 i) (h1 : n32 i < n)
    (kk : zW p l e R s m args below meth c Q y g n0 s0 (pc + 1) lv r (mm.1, mm.2.1, zup2 mm.2.2 a (n32 i).toNat x)) : zW p l e R s m args below meth c Q y g n0 s0 pc lv (.inl x :: .inl i :: .inr (.inr (some a)) :: r) mm := by
  intro H locs ls hl hR hS
  have hK := (z_ownw C0).2.1
  have he := zws_get (g := g) ha hs
  have hcc2 : cc = 101 ∨ cc = 102 := hcc.elim (fun h => Or.inl h.1) (fun h => Or.inr h.1)
  rw [zcl_i (Or.inr hcc2)] at he
  have fin : ∀ (z : Int32), z = Int32.ofInt x → ∀ (H1 : Heap) (locs1 : List Loc), va_P (gD g) zCl ((zws g mm).set (a - 2) (zad g a, .inl (gK g (cc - 100), n, .inl (upd (fun j => Int32.ofInt (mm.2.2 a j)) (Int32.ofInt i).toNatClampNeg z)))) H1 → va_S (zA g) H H1 locs1 → W p l e R s m args below meth c H1 locs1 (zln mm - n0) (zsl mm - s0) Q (F0 m (pc + 1) ls (r.map (mv g))) := by
    intro z hz H1 locs1 hP hS1
    refine z_wrote (m' := (mm.1, mm.2.1, zup2 mm.2.2 a (n32 i).toNat x)) Cs hl hR hS ha rfl rfl (fun q hq => by simp [zup2, hq]) kk (zws_set (m' := (mm.1, mm.2.1, zup2 mm.2.2 a (n32 i).toNat x)) ha hs rfl (fun q hq => ⟨rfl, by simp [zup2, hq]⟩) ?_) hP hS1
    rw [zcl_i (Or.inr hcc2), hz]
    congr 4
    funext q
    by_cases h9 : q = (n32 i).toNat <;> simp [upd, zup2, zup, zcl, h9]
  rcases hcc with ⟨rfl, g1, g2⟩ | ⟨rfl, g1⟩
  · refine va_bast (D := gD g) C0.1 C0.2.1 hK hR.1 (zD g mm) (va_S.here hS) (a - 2) 1 he rfl (zvp h0 h1) hd (fun H1 locs1 hP hD hS1 => fin _ ?_ H1 locs1 hP hS1)
    rw [vp_nar_byte]
    apply Int32.toInt_inj.mp
    rw [Int8.toInt_toInt32, Int32.toInt_toInt8]
    show (n32 x).bmod (2 ^ 8) = n32 x
    have e1 : ((2 ^ 8 : Nat) : Int) = 256 := by decide
    rw [Int.bmod_def, e1]
    split <;> omega
  · refine va_zast (D := gD g) C0.1 C0.2.1 hK hR.1 (zD g mm) (va_S.here hS) (a - 2) 2 he rfl (zvp h0 h1) hd (fun H1 locs1 hP hD hS1 => fin _ ?_ H1 locs1 hP hS1)
    rcases g1 with g1 | g1
    · have e1 : Int32.ofInt x = 0 := Int32.toInt_inj.mp g1
      rw [e1]; decide +kernel
    · have e1 : Int32.ofInt x = 1 := Int32.toInt_inj.mp g1
      rw [e1]; decide +kernel
end ZH
