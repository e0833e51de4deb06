/-! what of the world stays; a method's contract; a call; an end -/
theorem zNest_ok : ∀ w ∈ zNest, (∃ a i x h, w = .methodLinkNest a i x h) ∨ ∃ a i b n d h, w = .fieldLinkNest a i b n d h := by
  intro w hw
  have h := (List.mem_filter.mp hw).2
  cases w <;> first | exact Or.inl ⟨_, _, _, _, rfl⟩ | exact Or.inr ⟨_, _, _, _, _, _, rfl⟩ | cases h
theorem zKW.move {g : zG} {u U : State} {H1 : Heap} (hW : u.WarmedH U.vm) (h : zKW g u u.heap) (hz : u.heap.size ≤ H1.size) (hk : ∀ q, q < gB g → H1[q]? = u.heap[q]?) : zKW g U H1 := by
  obtain ⟨h1, h2, h3, h4, h5, h6, h7, h8, h9, h10⟩ := h
  refine ⟨va_K.moved hW.alike h1, fun w hw => ?_, va_AO.moved hW.alike h3, arrayOver_alikeB hW.alike h4, (va_Z.moved hW.alike h5).kept (fun a _ ha => hk a (Nat.lt_of_not_le ha)), (h6.moved hW.alike).kept (hk _ h8), (h7.moved hW.alike).kept (hk _ h9), h8, h9, Nat.le_trans h10 hz⟩
  rcases zNest_ok w hw with ⟨a, i, x, hh, rfl⟩ | ⟨a, i, b, n, d, hh, rfl⟩
  · exact va_Nw.warmM hW (h2 _ hw)
  · exact va_Nw.warmF hW (h2 _ hw)
theorem zKW.calling {g : zG} {U : State} {gg : JFrame} {mk : MethodId} {a : Array Value} (h : zKW g U U.heap) : zKW g (U.calling gg mk a) (U.calling gg mk a).heap := by
  obtain ⟨h1, h2, h3, h4, h5, h6, h7, h8⟩ := h
  have hal : U.vm.Alike (U.calling gg mk a).vm := Vm.Alike.refl U.vm
  refine ⟨va_K.moved hal h1, fun w hw => ?_, va_AO.moved hal h3, arrayOver_alikeB hal h4, va_Z.moved hal h5, h6.moved hal, h7.moved hal, h8⟩
  rcases zNest_ok w hw with ⟨a, i, x, hh, rfl⟩ | ⟨a, i, b, n, d, hh, rfl⟩
  · exact va_Nw.same rfl rfl (h2 _ hw)
  · exact va_Nw.same rfl rfl (h2 _ hw)
noncomputable def zwsY (y : Nat) : List Cond := .code (zM_ y).1 (zM_ y).2.1 (zM_ y).2.2.1 (zM_ y).2.2.2 :: zGood
def zPc (g : zG) (as : List zV) (mm : zMem) : Array Value → State → Prop := va_Pc (as.map (mv g)) (fun U => zKW g U U.heap ∧ zRep g mm U.heap)
def zQc (g : zG) (v : Option zV) (m' : zMem) : Array Value → State → Outcome → State → Prop := fun _ st oc t => oc = .returned (v.map (mv g)) ∧ zRep g m' t.heap ∧ st.heap.size ≤ t.heap.size ∧ ∀ q, q < gB g → t.heap[q]? = st.heap[q]?
def zrm (d c n : Nat) : Room := { frames := d, cells := c, slots := n, locals := 40 * d }
def zMet (l : Launch) (g : zG) (y d : Nat) (as : List zV) (mm : zMem) (v : Option zV) (m' : zMem) : Prop :=
  Met l (zM_ y).1 (zwsY y) (zrm d (zln m' - zln mm) (zsl m' - zsl mm)) (zPc g as mm) (zQc g v m') (zln m' - zln mm) (zsl m' - zsl mm) (zA g)
theorem zPc.blind {g : zG} {as : List zV} {mm : zMem} : FrameBlind (zPc g as mm) := fun a U gg mk q => ⟨q.1, q.2.1.calling, q.2.2⟩
theorem zGood_good {w : Cond} (h : w ∈ zGood) : (w.onTables && w.keeps) = true ∨ ∃ ty, w = .arrayClass ty := good_of_word (List.mem_filter.mp h).2
theorem zGoodIn {y : Nat} (hy : y < 95) : GoodIn zGood (zwsY y) := fun w hw => by
  rcases List.mem_cons.mp hw with h | h
  · subst h
    exact ⟨z_code hy, zGood_good (z_code hy)⟩
  · exact ⟨h, zGood_good h⟩
section ZC
variable {p : Program} {l : Launch} {e : Env} {R : Room} {s : State} {m : MethodId} {args : Array Value} {below : List Frame} {meth : Method} {c : Code} {Q : State → Prop} {y d n0 s0 : Nat} {g : zG} {pc : Nat} {lv : zLv} {mm : zMem} {r : List zV}
theorem z_pre {as : List zV} {H : Heap} {locs : List Loc} (C0 : zCX p R s m args meth c y d g) (hR : zRep g mm H) (hS : va_S (zA g) s.heap H locs) : ∀ U : State, U.heap = H → s.WarmedH U.vm → zPc g as mm (as.map (mv g)).toArray U := fun U hU hW =>
  ⟨rfl, by
    rw [hU]
    refine zKW.move hW (z_ownw C0).2 hS.1 (fun q hq => hS.2.1 q (Nat.lt_of_lt_of_le hq (z_ownw C0).2.2.2.2.2.2.2.2.2.2) (Nat.not_le.mpr hq)), by rw [hU]; exact hR⟩
/-- behind a call -/
theorem z_back {z e9 : Nat} {as rest : List zV} {v : Option zV} {m' : zMem} {a : Array Value} {H : Heap} {locs : List Loc} {ls : Array Slot} {st0 : List Value} (Cs : s.heap.size = gB g + (n0 - 2) ∧ 2 ≤ n0) (hs0 : s0 ≤ zsl mm) (hl : LH g ls (zM_ y).2.2.1 lv) (hR : zRep g mm H) (hS : va_S (zA g) s.heap H locs) (hm1 : zln mm ≤ zln m') (hm2 : zsl mm ≤ zsl m')
    (hr : va_Run p l e R s m args below meth c H locs (zln mm - n0) (zsl mm - s0) (zln m' - zln mm) (zsl m' - zsl mm) (F0 m pc ls st0) (rest.map (mv g)) (zQc g v m' a) (zA g))
    (k : zW p l e R s m args below meth c Q y g n0 s0 (pc + 3) lv (v.toList ++ rest) m') : W p l e R s m args below meth c H locs (zln mm - n0) (zsl mm - s0) Q (F0 m pc ls st0) := by
  intro T hT X
  obtain ⟨v', st₀, t, T', L, h0, X', hL, e1, e2, ⟨hv, hRep, hz, hk⟩, st⟩ := hr T hT X
  have hn0 := zRep_ge Cs hR hS
  have t1 : zln mm - n0 + (zln m' - zln mm) = zln m' - n0 := by omega
  have t2 : zsl mm - s0 + (zsl m' - zsl mm) = zsl m' - s0 := by omega
  rw [t1, t2] at X'
  cases hv
  rw [h0] at hz hk
  have hB : gB g ≤ s.heap.size := by omega
  have hS1 : va_S (zA g) s.heap T'.heap (locs ++ L) := by
    refine ⟨Nat.le_trans hS.1 (by rw [e1]; exact hz), fun q a1 a2 => ?_, fun x hx => ?_⟩
    · rw [e1, hk q (Nat.lt_of_not_le a2)]
      exact hS.2.1 q a1 a2
    · rcases List.mem_append.mp hx with h | h
      · exact hS.2.2 x h
      · exact hL x h
  obtain ⟨t2, a1, b1⟩ := k T'.heap (locs ++ L) ls hl (by rw [e1]; exact hRep) hS1 T' rfl X'
  refine ⟨t2, st t2 ?_, b1⟩
  have e : (v.toList ++ rest).map (mv g) = (Option.map (mv g) v).toList ++ rest.map (mv g) := by
    cases v <;> simp
  rw [e] at a1
  exact a1
theorem z_fix (C0 : zCX p R s m args meth c y d g) {ls : Array Slot} (hl : LH g ls (zM_ y).2.2.1 lv) : CallFix p m c (zM_ y).2.1 (zM_ y).2.2.1 s args zGood (zM_ y).1.cls := ⟨C0.1, C0.2.1, C0.2.2.1, C0.2.2.2.2.2.1, (z_ownw C0).1⟩
end ZC
/-- behind the whole body: the contract -/
theorem z_ofBody {l : Launch} {g : zG} {y d : Nat} {as : List zV} {mm m' : zMem} {v : Option zV} (hy : y < 95) (hn : (zargs as).length ≤ (zM_ y).2.2.1)
    (body : ∀ (p : Program) (e : Env) (s : State) (m : MethodId) (args : Array Value) (below : List Frame) (meth : Method) (c : Code), zCX p (zrm d (zln m' - zln mm) (zsl m' - zsl mm)) s m args meth c y d g → s.heap.size = gB g + (zln mm - 2) ∧ 2 ≤ zln mm →
      (∀ (pc1 : Nat) (lv1 : zLv) (i : Instr), decode (zM_ y).2.1 pc1 = .ok (i, 1) → ∀ st1, zret y i st1 = some v → zW p l e (zrm d (zln m' - zln mm) (zsl m' - zsl mm)) s m args below meth c (MQ below (zQc g v m') args s (zln m' - zln mm) (zsl m' - zsl mm) (zA g)) y g (zln mm) (zsl mm) pc1 lv1 st1 m') →
      zW p l e (zrm d (zln m' - zln mm) (zsl m' - zsl mm)) s m args below meth c (MQ below (zQc g v m') args s (zln m' - zln mm) (zsl m' - zsl mm) (zA g)) y g (zln mm) (zsl mm) 0 (zent as (zM_ y).2.2.1) [] mm) : zMet l g y d as mm v m' := by
  refine Met.ofW (cc := (zM_ y).2.1) (maxL := (zM_ y).2.2.1) (ret := (zM_ y).2.2.2) (zcode_ok y hy).2.2 rfl ?_
  intro p e s m args below meth c s₁ B hml hv
  obtain ⟨rfl, hKW, hR⟩ := hv
  have hts := atoms_spec (ws := zwsY y) B.pre
  have hname : meth.name = (zM_ y).1.name := (name_of_methodNamed B.named B.method).1
  have hl2 := hR.len
  have hsz := hR.2.1
  have h := body p e s m (as.map (mv g)).toArray below meth c ⟨B.exec, B.bytes, hml, B.returns, B.notSynchronized, findClass_of_methodNamed B.named, hname, fun w hw => hts w (List.mem_cons_of_mem _ hw), hKW, Nat.le_refl _, Nat.le_refl _⟩ ⟨hsz, hl2⟩ ?_ s.heap [] ((lg_sl (as.map (mv g)) ++ List.replicate ((zM_ y).2.2.1 - (lg_sl (as.map (mv g))).length) Slot.unset).toArray) ?_ hR va_S.rf
  · rw [Nat.sub_self, Nat.sub_self] at h
    rw [lg_entry_eq]
    exact h
  · intro pc1 lv1 i hdg st1 hret H locs ls hl hR1 hS
    have hq : ∀ (w : Option Value), w = v.map (mv g) → ∀ t : State, t.heap = H → s.WarmedH t.vm → zQc g v m' (as.map (mv g)).toArray s (.returned w) t := by
      intro w hw t ht _
      refine ⟨by rw [hw], by rw [ht]; exact hR1, by rw [ht]; exact hS.1, fun q hq => ?_⟩
      rw [ht]
      exact hS.2.1 q (Nat.lt_of_lt_of_le hq hKW.2.2.2.2.2.2.2.2.2) (Nat.not_le.mpr hq)
    have hr := B.returns
    have hlocks := B.notSynchronized
    cases i with
    | return_ =>
      simp only [zret] at hret
      split at hret
      · rename_i h1
        cases hret
        exact W.vret B.exec B.bytes (by rw [hr, h1]) (hq _ rfl) hS.2.2 hdg
      · cases hret
    | ireturn =>
      simp only [zret] at hret
      split at hret
      · rename_i x h1
        cases hret
        exact W.iret B.exec B.bytes (by rw [hr, h1]) (hq _ rfl) hS.2.2 hdg
      · rename_i x h1
        split at hret
        · rename_i h2
          cases hret
          have hn : narrow .boolean (.int (Int32.ofInt x)) = .int (Int32.ofInt x) := by
            rcases h2 with h2 | h2
            · have e1 : Int32.ofInt x = 0 := Int32.toInt_inj.mp h2
              rw [e1]; decide +kernel
            · have e1 : Int32.ofInt x = 1 := Int32.toInt_inj.mp h2
              rw [e1]; decide +kernel
          exact W.zret B.exec B.bytes (by rw [hr, h1]) hn (hq _ rfl) hS.2.2 hdg
        · cases hret
      · cases hret
    | lreturn =>
      simp only [zret] at hret
      split at hret
      · rename_i x h1
        cases hret
        exact W.lret B.exec B.bytes (by rw [hr, h1]) (hq _ rfl) hS.2.2 hdg
      · cases hret
    | areturn =>
      simp only [zret] at hret
      split at hret
      · rename_i C a h1
        cases hret
        exact W.aret B.exec B.bytes (by rw [hr, h1]) (Or.inl ⟨_, rfl⟩) (Or.inr ⟨_, rfl⟩) (hq _ rfl) hS.2.2 hdg
      · cases hret
    | _ => cases hret
  · have hlen : ∀ vs : List zV, (lg_sl (vs.map (mv g))).length = (zargs vs).length := by
      intro vs
      induction vs with
      | nil => rfl
      | cons w ws ih =>
        rcases w with x | x | q
        · simp [lg_sl, zargs, mv, Value.category] at ih ⊢
          exact ih
        · simp [lg_sl, zargs, mv, Value.category] at ih ⊢
          exact ih
        · cases q <;> (simp [lg_sl, zargs, mv, Value.category, va_rf] at ih ⊢; exact ih)
    have hla := lv_entry (as.map (mv g)) (n := (zM_ y).2.2.1) (by rw [hlen]; exact hn)
    refine ⟨hla.1, hla.2.1, ?_, fun i w hi => ?_⟩
    · unfold zent
      rw [List.length_append, List.length_replicate]
      omega
    · refine hla.2.2 (i, mv g w) ?_
      have key : ∀ (vs : List zV) (o j : Nat), (zargs vs)[j]? = some (some w) → (o + j, mv g w) ∈ lv_args o (vs.map (mv g)) := by
        intro vs
        induction vs with
        | nil => intro o j h; simp [zargs] at h
        | cons u us ih =>
          intro o j h
          have hc := mv_cat g u
          rcases u with x | x | q
          · cases j with
            | zero =>
              simp [zargs] at h
              subst h
              exact List.mem_cons_self
            | succ j =>
              simp [zargs] at h
              have h5 := ih (o + 1) j h
              refine List.mem_cons_of_mem _ ?_
              rw [hc, show o + (j + 1) = o + 1 + j by omega]
              exact h5
          · match j, h with
            | 0, h =>
              simp [zargs] at h
              subst h
              exact List.mem_cons_self
            | 1, h => simp [zargs] at h
            | j + 2, h =>
              simp [zargs] at h
              have h5 := ih (o + 2) j h
              refine List.mem_cons_of_mem _ ?_
              rw [hc, show o + (j + 2) = o + 2 + j by omega]
              exact h5
          · cases j with
            | zero =>
              simp [zargs] at h
              subst h
              exact List.mem_cons_self
            | succ j =>
              simp [zargs] at h
              have h5 := ih (o + 1) j h
              refine List.mem_cons_of_mem _ ?_
              rw [hc, show o + (j + 1) = o + 1 + j by omega]
              exact h5
      unfold zent at hi
      have hj : i < (zargs as).length := by
        by_cases h9 : i < (zargs as).length
        · exact h9
        · rw [List.getElem?_append_right (by omega), List.getElem?_replicate] at hi
          split at hi <;> cases hi
      rw [List.getElem?_append_left hj] at hi
      have h5 := key as 0 i hi
      rwa [Nat.zero_add] at h5
