/-! WHAT THE PURE MACHINE SAYS OF THE MACHINE: values, cells, locals -/
abbrev zG : Type := Nat × va_G × (Nat → ClassId) × Nat × Nat × Nat × (Nat → Int32) × (Nat → Int32)
abbrev gB (g : zG) : Nat := g.1
abbrev gD (g : zG) : va_G := g.2.1
abbrev gK (g : zG) : Nat → ClassId := g.2.2.1
abbrev gR (g : zG) : Nat := g.2.2.2.1
abbrev gS (g : zG) : Nat := g.2.2.2.2.1
abbrev gL (g : zG) : Nat := g.2.2.2.2.2.1
abbrev gX (g : zG) : Nat → Int32 := g.2.2.2.2.2.2.1
abbrev gY (g : zG) : Nat → Int32 := g.2.2.2.2.2.2.2
def zad (g : zG) (a : Nat) : Nat := if a = 0 then gR g else if a = 1 then gS g else gB g + (a - 2)
def mv (g : zG) : zV → Value
  | .inl x => .int (Int32.ofInt x)
  | .inr (.inl x) => .long (Int64.ofInt x)
  | .inr (.inr r) => va_rf (r.map (zad g))
def zA (g : zG) : Nat → Prop := fun q => gB g ≤ q
def zfv (g : zG) (c : Nat) (rs : List (Option Nat)) (f : Nat → Int) (k : Nat) : Value := match zty c k with
  | 3 => va_rf ((rs.getD k none).map (zad g))
  | 2 => .long (Int64.ofInt (f k))
  | _ => .int (Int32.ofInt (f k))
def zcell (g : zG) (sh : Nat × Nat) (rs : List (Option Nat)) (f : Nat → Int) : va_E :=
  if sh.1 < 8 then .inr (sh.1, (List.range sh.2).map (zfv g sh.1 rs f))
  else if sh.1 < 103 then .inl (gK g (sh.1 - 100), sh.2, .inl (fun j => Int32.ofInt (f j)))
  else .inl (gK g (sh.1 - 100), sh.2, .inr (.inr (.inr (.inr (fun j => (rs.getD j none).map (zad g))))))
def zws (g : zG) (m : zMem) : va_W := (List.range (m.1.length - 2)).map (fun i => (gB g + i, zcell g (m.1.getD (i + 2) (0, 0)) (m.2.1.getD (i + 2) []) (m.2.2 (i + 2))))
def ztys (g : zG) : List (ClassId × FieldType) := [(gK g 0, .int), (gK g 1, .byte), (gK g 2, .boolean), (gK g 3, .array .int), (gK g 4, .object "EdgeJoin$State")]
def zRep (g : zG) (m : zMem) (H : Heap) : Prop := va_P (gD g) zCl (zws g m) H ∧ H.size = gB g + (m.1.length - 2) ∧ m.2.1.length = m.1.length ∧ m.1[0]? = some (100, 16) ∧ m.1[1]? = some (100, gL g) ∧ (∀ j, Int32.ofInt (m.2.2 0 j) = gY g j) ∧ ∀ j, Int32.ofInt (m.2.2 1 j) = gX g j
def zAOA (U : State) : Prop := (Cond.arrayOver (.array .int)).before #[] U = true
def zKW (g : zG) (U : State) (H : Heap) : Prop := va_K (gD g) zCl (ztys g) U ∧ (∀ w ∈ zNest, va_Nw w U) ∧ va_AO "EdgeJoin$State" U ∧ zAOA U ∧ va_Z "EdgeJoin" "RIM" "[I" (.ref (gR g)) (zA g) U H ∧ va_X (gR g) 16 (gY g) U H ∧ va_X (gS g) (gL g) (gX g) U H ∧ gR g < gB g ∧ gS g < gB g ∧ gB g ≤ H.size
def LH (g : zG) (ls : Array Slot) (nL : Nat) (lv : zLv) : Prop := ls.size = nL ∧ lv_wf ls ∧ lv.length = nL ∧ ∀ (i : Nat) (v : zV), lv[i]? = some (some v) → ls[i]? = some (.val (mv g v))
def zCX (p : Program) (R : Room) (s : State) (m : MethodId) (args : Array Value) (meth : Method) (c : Code) (y d : Nat) (g : zG) : Prop :=
  p.tables.exec = Jvm.exec ∧ c.code = (zM_ y).2.1 ∧ c.maxLocals = (zM_ y).2.2.1 ∧ meth.sig.returnType = (zM_ y).2.2.2 ∧ meth.locks = false ∧ s.vm.findClass (zM_ y).1.cls = some m.cls ∧ meth.name = (zM_ y).1.name ∧ (∀ w ∈ zGood, w.before args s = true) ∧ zKW g s s.heap ∧ d ≤ R.frames ∧ 40 * d ≤ R.locals
def zW (p : Program) (l : Launch) (e : Env) (R : Room) (s : State) (m : MethodId) (args : Array Value) (below : List Frame) (meth : Method) (c : Code) (Q : State → Prop) (y : Nat) (g : zG) (n0 s0 : Nat) (pc : Nat) (lv : zLv) (st : List zV) (mm : zMem) : Prop :=
  ∀ (H : Heap) (locs : List Loc) (ls : Array Slot), LH g ls (zM_ y).2.2.1 lv → zRep g mm H → va_S (zA g) s.heap H locs → W p l e R s m args below meth c H locs (zln mm - n0) (zsl mm - s0) Q (F0 m pc ls (st.map (mv g)))
theorem i32_n (x : Int) : Int32.ofInt (n32 x) = Int32.ofInt x := Int32.ofInt_toInt _
theorem i32_lt (x y : Int) : Int32.ofInt x < Int32.ofInt y ↔ n32 x < n32 y := Int32.lt_iff_toInt_lt
theorem i32_le (x y : Int) : Int32.ofInt x ≤ Int32.ofInt y ↔ n32 x ≤ n32 y := Int32.le_iff_toInt_le
theorem i32_eq (x y : Int) : Int32.ofInt x = Int32.ofInt y ↔ n32 x = n32 y := Int32.toInt_inj.symm
theorem n32_0 : n32 0 = 0 := by decide +kernel
theorem i64_lt (x y : Int) : Int64.ofInt x < Int64.ofInt y ↔ n64 x < n64 y := Int64.lt_iff_toInt_lt
theorem i64_eq (x y : Int) : Int64.ofInt x = Int64.ofInt y ↔ n64 x = n64 y := Int64.toInt_inj.symm
theorem n64_0 : n64 0 = 0 := by decide +kernel
theorem zvp {x : Int} {n : Nat} (h0 : 0 ≤ n32 x) (h1 : n32 x < n) : vp_in (Int32.ofInt x) n := vp_in_iff.mpr ⟨h0, h1⟩
theorem zcl (x : Int) : (Int32.ofInt x).toNatClampNeg = (n32 x).toNat := rfl
theorem mv_cat (g : zG) (v : zV) : (mv g v).category = zcat v := by
  rcases v with x | x | r
  · rfl
  · rfl
  · cases r <;> rfl
theorem mv_cats (g : zG) (st : List zV) : ((st.map (mv g)).map fun v => v.category).sum = zcats st := by
  unfold zcats
  rw [List.map_map]
  congr 1
  exact List.map_congr_left (fun v _ => mv_cat g v)
theorem zws_len (g : zG) (m : zMem) : (zws g m).length = m.1.length - 2 := by simp [zws]
theorem zws_at {g : zG} {m : zMem} {i : Nat} (h : i < m.1.length - 2) : (zws g m)[i]? = some (gB g + i, zcell g (m.1.getD (i + 2) (0, 0)) (m.2.1.getD (i + 2) []) (m.2.2 (i + 2))) := by
  unfold zws
  rw [List.getElem?_map, List.getElem?_range h]
  rfl
theorem zad_2 {g : zG} {a : Nat} (h : 2 ≤ a) : zad g a = gB g + (a - 2) := by
  unfold zad
  rw [if_neg (by omega), if_neg (by omega)]
theorem zws_get {g : zG} {m : zMem} {a : Nat} {sh : Nat × Nat} (h2 : 2 ≤ a) (h : m.1[a]? = some sh) : (zws g m)[a - 2]? = some (zad g a, zcell g sh (m.2.1.getD a []) (m.2.2 a)) := by
  have hlt := (List.getElem?_eq_some_iff.mp h).1
  rw [zws_at (by omega), zad_2 h2, show a - 2 + 2 = a by omega, List.getD_eq_getElem?_getD, h]
  rfl
theorem zD (g : zG) (m : zMem) : va_D (zA g) (zws g m) := by
  have key : ∀ (i : Nat) (p : Nat × va_E), (zws g m)[i]? = some p → p.1 = gB g + i := fun i p h => by
    have hl : i < m.1.length - 2 := by
      have := (List.getElem?_eq_some_iff.mp h).1
      rwa [zws_len] at this
    rw [zws_at hl] at h
    cases h
    rfl
  refine ⟨fun i j p q hi hj h => ?_, fun k q hk => ?_⟩
  · have h1 := key i p hi
    have h2 := key j q hj
    omega
  · have h1 := key k q hk
    show gB g ≤ q.1
    omega
theorem zws_set {g : zG} {m m' : zMem} {a : Nat} {sh : Nat × Nat} (h2 : 2 ≤ a) (h : m.1[a]? = some sh) (h1 : m'.1 = m.1) (ho : ∀ i, i ≠ a → m'.2.1.getD i [] = m.2.1.getD i [] ∧ m'.2.2 i = m.2.2 i) {v : va_E} (hv : v = zcell g sh (m'.2.1.getD a []) (m'.2.2 a)) : (zws g m).set (a - 2) (zad g a, v) = zws g m' := by
  have hlt := (List.getElem?_eq_some_iff.mp h).1
  apply List.ext_getElem?
  intro i
  by_cases hi : i < m.1.length - 2
  · rw [zws_at (m := m') (by rw [h1]; exact hi)]
    by_cases e : i = a - 2
    · subst e
      rw [List.getElem?_set_self (by rw [zws_len]; exact hi), hv, zad_2 h2, show a - 2 + 2 = a by omega, h1, List.getD_eq_getElem?_getD (l := m.1), h]
      rfl
    · rw [List.getElem?_set_ne (Ne.symm e), zws_at hi, h1, (ho (i + 2) (by omega)).1, (ho (i + 2) (by omega)).2]
  · rw [List.getElem?_eq_none (by rw [List.length_set, zws_len]; omega), List.getElem?_eq_none (by rw [zws_len, h1]; omega)]
theorem zws_push {g : zG} {m : zMem} {sh : Nat × Nat} {rs : List (Option Nat)} (h2 : 2 ≤ m.1.length) (hl : m.2.1.length = m.1.length) : zws g (znew m sh rs) = zws g m ++ [(gB g + (m.1.length - 2), zcell g sh rs (fun _ => 0))] := by
  apply List.ext_getElem?
  intro i
  have hn : (znew m sh rs).1.length = m.1.length + 1 := by simp [znew]
  by_cases hi : i < m.1.length - 2
  · rw [zws_at (by rw [hn]; omega), List.getElem?_append_left (by rw [zws_len]; exact hi), zws_at hi]
    have e1 : (znew m sh rs).1.getD (i + 2) (0, 0) = m.1.getD (i + 2) (0, 0) := by
      simp only [znew, List.getD_eq_getElem?_getD]
      rw [List.getElem?_append_left (by omega)]
    have e2 : (znew m sh rs).2.1.getD (i + 2) [] = m.2.1.getD (i + 2) [] := by
      simp only [znew, List.getD_eq_getElem?_getD]
      rw [List.getElem?_append_left (by omega)]
    have e3 : (znew m sh rs).2.2 (i + 2) = m.2.2 (i + 2) := by
      simp only [znew]
      rw [if_neg (by omega)]
    rw [e1, e2, e3]
  · rw [List.getElem?_append_right (by rw [zws_len]; omega), zws_len]
    by_cases e : i = m.1.length - 2
    · subst e
      rw [zws_at (by rw [hn]; omega), Nat.sub_self, show m.1.length - 2 + 2 = m.1.length by omega]
      have e1 : (znew m sh rs).1.getD m.1.length (0, 0) = sh := by
        simp only [znew, List.getD_eq_getElem?_getD]
        rw [List.getElem?_append_right (Nat.le_refl _), Nat.sub_self]
        rfl
      have e2 : (znew m sh rs).2.1.getD m.1.length [] = rs := by
        simp only [znew, List.getD_eq_getElem?_getD]
        rw [List.getElem?_append_right (by omega), hl, Nat.sub_self]
        rfl
      have e3 : (znew m sh rs).2.2 m.1.length = fun _ => 0 := by
        simp only [znew]
        rw [if_pos trivial]
      rw [e1, e2, e3]
      rfl
    · rw [List.getElem?_eq_none (by rw [zws_len, hn]; omega), List.getElem?_eq_none (by simp; omega)]
/-- the locals as the kit lists them -/
def zasc (g : zG) (lv : zLv) : List (Nat × Value) := (List.range lv.length).filterMap (fun i => match lv[i]? with
  | some (some v) => some (i, mv g v)
  | _ => none)
theorem zasc_mem {g : zG} {lv : zLv} {i : Nat} {v : zV} (h : lv[i]? = some (some v)) : (i, mv g v) ∈ zasc g lv := by
  refine List.mem_filterMap.mpr ⟨i, List.mem_range.mpr (List.getElem?_eq_some_iff.mp h).1, ?_⟩
  rw [h]
theorem LH.has {g : zG} {ls : Array Slot} {nL : Nat} {lv : zLv} (h : LH g ls nL lv) : lv_has ls nL (zasc g lv) := by
  refine ⟨h.1, h.2.1, fun q hq => ?_⟩
  obtain ⟨i, -, hi⟩ := List.mem_filterMap.mp hq
  split at hi
  · rename_i v hv
    cases hi
    exact h.2.2.2 i v hv
  · cases hi
theorem LH.at {g : zG} {ls : Array Slot} {nL : Nat} {lv : zLv} (h : LH g ls nL lv) {i : Nat} {v : zV} (hv : zld lv i = some v) : ls[i]? = some (.val (mv g v)) := by
  unfold zld at hv
  split at hv
  · rename_i w hw
    cases hv
    exact h.2.2.2 i _ hw
  · cases hv
theorem zclr_get {i j : Nat} {lv : zLv} {v : zV} (h : (zclr i lv)[j]? = some (some v)) : lv[j]? = some (some v) ∧ ¬ (j + 1 = i ∧ zcat v = 2) := by
  cases i with
  | zero => exact ⟨h, by omega⟩
  | succ k =>
    simp only [zclr] at h
    split at h
    · rename_i x hx
      by_cases e : j = k
      · subst e
        rw [List.getElem?_set_self (List.getElem?_eq_some_iff.mp hx).1] at h
        cases h
      · rw [List.getElem?_set_ne (Ne.symm e)] at h
        exact ⟨h, by omega⟩
    · rename_i hx
      refine ⟨h, fun hc => ?_⟩
      obtain ⟨e, hc⟩ := hc
      have e : j = k := by omega
      subst e
      rcases v with x | x | r
      · cases hc
      · exact hx x h
      · cases hc
theorem zclr_len (i : Nat) (lv : zLv) : (zclr i lv).length = lv.length := by
  cases i with
  | zero => rfl
  | succ k =>
    simp only [zclr]
    split
    · rw [List.length_set]
    · rfl
theorem LH.set {g : zG} {ls ls' : Array Slot} {nL i : Nat} {lv : zLv} {v : zV} (h : LH g ls nL lv) (hi : i < nL) (h' : lv_has ls' nL ((i, mv g v) :: (zasc g lv).filter (fun q => !(q.1 == i) && !(q.1 + 1 == i && q.2.category == 2)))) : LH g ls' nL (zset i v lv) := by
  have hl : (zset i v lv).length = nL := by
    unfold zset
    rw [List.length_set, zclr_len]
    exact h.2.2.1
  refine ⟨h'.1, h'.2.1, hl, fun j w hj => ?_⟩
  by_cases e : j = i
  · subst e
    unfold zset at hj
    rw [List.getElem?_set_self (by rw [zclr_len, h.2.2.1]; exact hi)] at hj
    cases hj
    exact h'.2.2 _ List.mem_cons_self
  · unfold zset at hj
    rw [List.getElem?_set_ne (Ne.symm e)] at hj
    obtain ⟨h1, h2⟩ := zclr_get hj
    refine h'.2.2 (j, mv g w) (List.mem_cons_of_mem _ (List.mem_filter.mpr ⟨zasc_mem h1, ?_⟩))
    have hc := mv_cat g w
    simp only [Bool.and_eq_true, Bool.not_eq_true', beq_eq_false_iff_ne, ne_eq, Bool.and_eq_false_iff, hc]
    refine ⟨e, ?_⟩
    by_cases e2 : j + 1 = i
    · exact Or.inr (fun q => h2 ⟨e2, q⟩)
    · exact Or.inl e2
theorem LH.set2 {g : zG} {ls ls' : Array Slot} {nL i : Nat} {lv : zLv} {v : zV} (h : LH g ls nL lv) (hi : i + 1 < nL) (h' : lv_has ls' nL ((i, mv g v) :: (zasc g lv).filter (fun q => !(q.1 == i) && (!(q.1 == i + 1) && !(q.1 + 1 == i && q.2.category == 2))))) : LH g ls' nL (zset2 i v lv) := by
  have hl : (zset2 i v lv).length = nL := by
    unfold zset2
    rw [List.length_set, List.length_set, zclr_len]
    exact h.2.2.1
  refine ⟨h'.1, h'.2.1, hl, fun j w hj => ?_⟩
  unfold zset2 at hj
  by_cases e1 : j = i + 1
  · subst e1
    rw [List.getElem?_set_self (by rw [List.length_set, zclr_len, h.2.2.1]; exact hi)] at hj
    cases hj
  · rw [List.getElem?_set_ne (Ne.symm e1)] at hj
    by_cases e : j = i
    · subst e
      rw [List.getElem?_set_self (by rw [zclr_len, h.2.2.1]; omega)] at hj
      cases hj
      exact h'.2.2 _ List.mem_cons_self
    · rw [List.getElem?_set_ne (Ne.symm e)] at hj
      obtain ⟨h1, h2⟩ := zclr_get hj
      refine h'.2.2 (j, mv g w) (List.mem_cons_of_mem _ (List.mem_filter.mpr ⟨zasc_mem h1, ?_⟩))
      have hc := mv_cat g w
      simp only [Bool.and_eq_true, Bool.not_eq_true', beq_eq_false_iff_ne, ne_eq, Bool.and_eq_false_iff, hc]
      refine ⟨e, e1, ?_⟩
      by_cases e2 : j + 1 = i
      · exact Or.inr (fun q => h2 ⟨e2, q⟩)
      · exact Or.inl e2
