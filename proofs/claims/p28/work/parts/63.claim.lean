/-! THE CLAIM OUT OF ONE WALK OF THE LAW'S BODY. Your part is whole_start (and what it stands on); all else here is the same for every law, but numbers. -/
def R_law : String := "EdgeJoinLaw"
def lw_P (b : Addr) (xs : List Int32) (args : Array Value) (s : State) : Prop := args = #[.ref b] ∧ s.IntsAt b xs ∧ xs.length ≤ 260 ∧ (Jvm.Cond.and given_1 narrow_1).before args s = true
def lw_Q (_ : Array Value) (s : State) (o : Outcome) (t : State) : Prop := o = .returned (some (.int 1)) ∧ Framed s o t [] 600000 7302250
def lw_Z (below : List Frame) (a : Array Value) (s : State) : State → Prop := fun t => ∃ o, t.status = .running ∧ Ended t below o ∧ lw_Q a s o t
/-- the law's own end, with 1 on the stack, nothing written that was there before, its room as the claim has it -/
theorem lw_ret {p : Program} {l : Launch} {e : Env} {s : State} {m : MethodId} {below : List Frame} {meth : Method} {c : Code} {b : Nat} (hx : p.tables.exec = Jvm.exec) (hb : c.code = code) (hr : meth.sig.returnType = ret) (hlocks : meth.locks = false) {pc : Nat} {H : Heap} {ls : Array Slot} (hdg : decode code pc = .ok (.ireturn, 1)) : W p l e room_1 s m #[Value.ref b] below meth c H [] 600000 7302250 (lw_Z below #[Value.ref b] s) (F0 m pc ls [.int 1]) := by
  intro T hT X
  obtain ⟨fs, hret, hrun, hended, hW, hframe⟩ := X.leave (v := some (.int 1)) (hlocks := hlocks) (fun h => by rw [hr] at h; cases h)
  have hmeth' : T.vm.method? m = some meth := X.method'
  refine ⟨T.setFrames fs, ?_, .returned (some (.int 1)), hrun, hended, rfl, ⟨_, rfl⟩, hW, hframe⟩
  jvm_step X.here [X.here.top, hx, hb, hdg, hmeth', hr, ret, narrow_b1]
  (try refine ⟨rfl, ?_⟩); (try refine ⟨rfl, ?_⟩)
  first | (intro acts; rw [hret _ acts rfl rfl rfl]) | rw [hret _ _ rfl rfl rfl]
  exact Steps.refl _
/-- what holds at the law's entry: the machine, the code, the tables' words (any of lw_tbl by 'hts w (by decide +kernel)'), the script of L ints xs at the cell b, what the Statement gives of the start (any of its parts by flat_of_before) -/
def lw_At (p : Program) (s : State) (m : MethodId) (meth : Method) (c : Code) (b L : Nat) (xs : Nat → Int32) : Prop :=
  p.tables.exec = Jvm.exec ∧ c.code = code ∧ meth.sig.returnType = ret ∧ c.maxLocals = 8 ∧ s.vm.findClass R_law = some m.cls ∧ (∀ w ∈ lw_tbl, w.before #[Value.ref b] s = true) ∧ va_X b L xs s s.heap ∧ b < s.heap.size ∧ meth.locks = false ∧ (Jvm.Cond.and given_1 narrow_1).before #[Value.ref b] s = true ∧ meth.name = "law"
theorem z_law : (zM_ 95).1.cls = R_law ∧ (zM_ 95).1.name = "law" ∧ (zM_ 95).2.1 = code ∧ (zM_ 95).2.2.1 = 8 ∧ (zM_ 95).2.2.2 = some .boolean := ⟨rfl, rfl, rfl, rfl, rfl⟩
theorem rim_in : ∀ j, j < 16 → Cond.eq (.elem (.static "EdgeJoin" "RIM" "[I") (.int (Int32.ofNat j))) (.int (Int32.ofInt (rimI j))) ∈ flatC (Jvm.Cond.and given_1 narrow_1) := by decide +kernel
theorem w_world {s : State} {b L : Nat} {xs : Nat → Int32} (hts : ∀ w ∈ lw_tbl, w.before #[Value.ref b] s = true) (hX : va_X b L xs s s.heap) (hb : b < s.heap.size) (hgv : (Jvm.Cond.and given_1 narrow_1).before #[Value.ref b] s = true) : ∃ g : zG, gB g = s.heap.size ∧ gS g = b ∧ gL g = L ∧ gX g = xs ∧ (gY g = fun j => Int32.ofInt (rimI j)) ∧ zKW g s s.heap := by
  obtain ⟨dC, dI, hcl⟩ := k_classes hts
  obtain ⟨k0, p0, q0⟩ := k_arr (hts (.arrayClass .int) (by decide +kernel)) (Or.inl rfl)
  obtain ⟨k1, p1, q1⟩ := k_arr (hts (.arrayClass .byte) (by decide +kernel)) (Or.inr (Or.inl rfl))
  obtain ⟨k2, p2, q2⟩ := k_arr (hts (.arrayClass .boolean) (by decide +kernel)) (Or.inr (Or.inr rfl))
  obtain ⟨k3, p3, q3⟩ := k_arrA (hts (.arrayOver (.array .int)) (by decide +kernel))
  obtain ⟨k4, p4, q4⟩ := k_arrO (C := "EdgeJoin$State") (hts (.arrayOver (.object "EdgeJoin$State")) (by decide +kernel))
  have hs := flat_of_before _ hgv
  obtain ⟨r, hr1, hr2, hr3⟩ := k_rim (tm := .static "EdgeJoin" "RIM" "[I") (f := fun j => Int32.ofInt (rimI j)) (hs _ (by decide +kernel)) (hs _ (by decide +kernel)) (fun j hj => hs _ (rim_in j hj))
  refine ⟨(s.heap.size, (dC, dI), fun i => [k0, k1, k2, k3, k4].getD i k0, r, b, L, xs, fun j => Int32.ofInt (rimI j)), rfl, rfl, rfl, rfl, rfl, ⟨hcl, fun k q hk => ?_⟩, fun w hw => ?_, va_AO.of (hts (.arrayOver (.object "EdgeJoin$State")) (by decide +kernel)), ?_, ?_, hr3, hX, hr2, hb, Nat.le_refl _⟩
  · have hm := List.mem_of_getElem? hk
    simp only [ztys, List.mem_cons, List.not_mem_nil, or_false] at hm
    rcases hm with rfl | rfl | rfl | rfl | rfl
    · exact ⟨p0, q0⟩
    · exact ⟨p1, q1⟩
    · exact ⟨p2, q2⟩
    · exact ⟨p3, q3⟩
    · exact ⟨p4, q4⟩
  · have hb9 := hts w (List.mem_filter.mp hw).1
    rcases zNest_ok w hw with ⟨a, i, x, hh, rfl⟩ | ⟨a, i, x, n, d, hh, rfl⟩
    · exact va_Nw.of rfl hb9
    · exact va_Nw.of rfl hb9
  · exact hts (.arrayOver (.array .int)) (by decide +kernel)
  · exact va_Zref (hts (.laysStatic "EdgeJoin" "RIM" "[I") (by decide +kernel)) (hts (.initialized "EdgeJoin") (by decide +kernel)) hr1 (fun a ha h => absurd (show s.heap.size ≤ a from h) (Nat.not_le.mpr ha))
/-- from the entry, for every script of at most 260 ints, the law comes to its end with true -/
theorem whole_start {p : Program} {e : Env} {s : State} {m : MethodId} {below : List Frame} {meth : Method} {c : Code} (l : Launch) (hflags : l.flags = flags0) {b L : Nat} {xs : Nat → Int32} (hL : L ≤ 260) (C0 : lw_At p s m meth c b L xs) : W p l e room_1 s m #[Value.ref b] below meth c s.heap [] 0 0 (lw_Z below #[Value.ref b] s) (entryFrame m ([Value.ref b] : List Value).toArray 8) := by
  obtain ⟨hexec, hcode, hret, hml, hown, hts, hX, hb, hlocks, hgv, hname⟩ := C0
  obtain ⟨g, g1, g2, g3, g4, g5, hKW⟩ := w_world hts hX hb hgv
  obtain ⟨l1, l2, l3, l4, l5⟩ := z_law
  have hr0 : ret = some .boolean := rfl
  let I0 : zI := fun a j => if a = 0 then rimI j else if a = 1 then (xs j).toInt else 0
  have hI0 : ∀ j, I0 0 j = rimI j := fun _ => rfl
  have hI1 : ∀ j, I0 1 j = (xs j).toInt := fun _ => rfl
  obtain ⟨n, v, m', hrun, hv, L', J, hL', hm'⟩ := law_run (L := L) (I0 := I0) hL (fun j _ => hI0 j) (fun j => by
    rw [hI1]
    have h1 := Int32.le_toInt (xs j)
    have h2 := Int32.toInt_lt (xs j)
    exact ⟨by omega, by omega⟩)
  clear_value I0
  subst hv
  subst hm'
  have hCX : zCX p room_1 s m #[Value.ref b] meth c 95 20 g := ⟨hexec, by rw [hcode, l3], by rw [hml, l4], by rw [hret, l5, hr0], hlocks, by rw [l1]; exact hown, by rw [l2]; exact hname, fun w hw => hts w (List.mem_filter.mp hw).1, hKW, by decide, by decide⟩
  have hsum : zsl (mS L' J) = 16 + (L' % 512 + ((Sh1.map (fun q => q.2)).sum + 4 * (L' / 512))) := Sh0_sum L'
  have hs0 : (Sh1.map (fun q => q.2)).sum ≤ 100000 := by decide +kernel
  have hln : zln (mS L' J) = 137 + L' / 512 := Sh0_len L'
  have hW := zx_sound n 20 95 0 _ _ _ _ _ hrun (by decide) (p := p) (l := l) (e := e) (R := room_1) (s := s) (m := m) (args := #[Value.ref b]) (below := below) (meth := meth) (c := c) (Q := lw_Z below #[Value.ref b] s) (n0 := 2) (s0 := 16 + L) hCX ⟨by rw [g1]; rfl, Nat.le_refl _⟩ ?_ ?_ ?_ ?_
  · have h := hW s.heap [] ((lg_sl [Value.ref b] ++ List.replicate (8 - (lg_sl [Value.ref b]).length) Slot.unset).toArray) ?_ ?_ va_S.rf
    · rw [lg_entry_eq]
      have e1 : zln ([(100, 16), (100, L)], [[], []], I0) - 2 = 0 := rfl
      have e2 : zsl ([(100, 16), (100, L)], [[], []], I0) - (16 + L) = 0 := by simp [zsl]
      rw [e1, e2] at h
      exact h
    · rw [l4]
      have hla := lv_entry [Value.ref b] (n := 8) (by show 1 ≤ 8; decide)
      refine ⟨hla.1, hla.2.1, rfl, fun i w hi => ?_⟩
      match i, hi with
      | 0, hi =>
        cases hi
        refine hla.2.2 (0, mv g (vR 1)) ?_
        have e3 : mv g (vR 1) = Value.ref b := by rw [← g2]; rfl
        rw [e3]
        exact List.mem_cons_self
      | 1, hi => cases hi
      | 2, hi => cases hi
      | 3, hi => cases hi
      | 4, hi => cases hi
      | 5, hi => cases hi
      | 6, hi => cases hi
      | 7, hi => cases hi
      | i + 8, hi => cases hi
    · refine ⟨fun k q hk => (by cases hk), (by rw [g1]; rfl), rfl, rfl, (by rw [g3]; rfl), fun j => ?_, fun j => ?_⟩
      · show Int32.ofInt (I0 0 j) = _
        rw [hI0, g5]
      · show Int32.ofInt (I0 1 j) = _
        rw [hI1, g4]
        exact Int32.ofInt_toInt _
  · simp [zsl]
  · rw [hln]
    exact Nat.le_trans (show 137 + L' / 512 - 2 ≤ 1000 by omega) (by decide)
  · rw [hsum]
    show _ ≤ 7302250
    omega
  · intro pc1 lv1 i hdg st1 hre H locs ls hl hR hS
    have hiv : i = .ireturn ∧ st1 = [vI 1] := by
      cases i with
      | return_ =>
        simp only [zret] at hre
        split at hre
        · cases hre
        · cases hre
      | ireturn =>
        simp only [zret] at hre
        split at hre
        · rename_i x h1
          cases hre
          exact ⟨rfl, rfl⟩
        · rename_i x h1
          split at hre
          · cases hre
            exact ⟨rfl, rfl⟩
          · cases hre
        · cases hre
      | lreturn =>
        simp only [zret] at hre
        split at hre
        · cases hre
        · cases hre
      | areturn =>
        simp only [zret] at hre
        split at hre
        · cases hre
        · cases hre
      | _ => cases hre
    obtain ⟨rfl, rfl⟩ := hiv
    rw [l3] at hdg
    refine va_forget (fun q hq => by rw [← g1]; exact hS.2.2 q hq) ?_
    refine W.widen (k := 600000) (n := 7302250) (by rw [hln]; omega) (by rw [hsum]; omega) ?_
    exact lw_ret hexec hcode hret hlocks hdg
set_option maxHeartbeats 4000000 in
theorem lw_walk (l : Launch) (hflags : l.flags = flags0) (b : Addr) (xs : List Int32) : MetFree l x (headSpec (Jvm.Cond.code x code maxLocals ret :: tables_1) room_1) (lw_P b xs) (fun _ _ _ _ _ => True) lw_Q := by
  refine MetFree.of_bodyS (code := code) (maxLocals := maxLocals) (ret := ret) (by decide) ?_ ?_
  · intro args s m h hn
    obtain ⟨meth, c, h1, h2, h3, h4, h5, h6, -, -⟩ := Cond.code_spec hn (atoms_spec (ws := Jvm.Cond.code x code maxLocals ret :: tables_1) h _ List.mem_cons_self)
    exact ⟨meth, c, h1, h2, h3, h4, h5, h6⟩
  · intro p e s m args below meth c s₁ B hml0 hP _
    obtain ⟨rfl, hx, hbd, hgv⟩ := hP
    obtain ⟨scr, harrAt, hlist, hof, hsmall⟩ := hx
    obtain ⟨hcb, hkn, -, -⟩ := State.arrayAt?_spec harrAt
    have hown : s.vm.findClass R_law = some m.cls := findClass_of_methodNamed B.named
    have hts0 : ∀ c ∈ (Jvm.Cond.code x code maxLocals ret :: tables_1), c.before #[Value.ref b] s = true := atoms_spec (ws := Jvm.Cond.code x code maxLocals ret :: tables_1) B.pre
    have hts : ∀ w ∈ lw_tbl, w.before #[Value.ref b] s = true := k2_hts_sels lw_privs (fun w hw => hts0 w (List.mem_cons_of_mem _ hw)) lw_privs_ok
    have hml : c.maxLocals = 8 := B.maxLocals_eq (hts0 _ List.mem_cons_self)
    have X₀ : Stand p l e room_1 s m #[Value.ref b] below meth c s₁ [] 0 0 := Stand.of_body B
    have hh0 : s₁.heap = s.heap := by rw [B.state]; rfl
    have hsz : scr.slots.size = xs.length := by rw [← Array.length_toList, hlist, List.length_map]
    have hval : ∀ j : Nat, j < xs.length → scr.slots[j]? = some (.int (xs.getD j 0)) := fun j hj => by
      rw [← Array.getElem?_toList, hlist]
      simp [hj]
    have hbl : b < s.heap.size := (Array.getElem?_eq_some_iff.mp hcb).1
    have hX : va_X b xs.length (fun j => xs.getD j 0) s s.heap := ⟨scr, hcb, hof, hkn, hsz, hval⟩
    have K : W p l e room_1 s m #[Value.ref b] below meth c s₁.heap [] 0 0 (lw_Z below #[Value.ref b] s) (entryFrame m ([Value.ref b] : List Value).toArray 8) := by
      rw [hh0]
      exact whole_start l hflags hbd ⟨B.exec, B.bytes, B.returns, hml, hown, hts, hX, hbl, B.notSynchronized, hgv, (name_of_methodNamed B.named B.method).1⟩
    obtain ⟨t, a1, o, b1, b2, b3⟩ := K s₁ rfl X₀
    exact ⟨t, o, a1, b1, b2, b3⟩
theorem lw_pre_spec {args : Array Value} {s : State} (h : (Jvm.Cond.and given_1 narrow_1).before args s = true) (hr : rest_1_c.before args s = true) : ∃ (b : Addr) (xs : List Int32), lw_P b xs args s := by
  have hs := flat_of_before _ h
  have hq := flat_of_before _ hr
  have hc : (Cond.count 1).before args s = true := hs _ (by decide +kernel)
  have harr : (Cond.arrayOf (.arg 0) .int).before args s = true := hs _ (by decide +kernel)
  have hle : (Cond.le (.length (.arg 0)) (.int 260)).before args s = true := hs _ (by decide +kernel)
  have hlen : (Cond.isInt (.length (.arg 0))).before args s = true := hq _ (by decide +kernel)
  have hall : (Cond.all (.arg 0) (.isInt (.elem (.arg 0) (.index 0)))).before args s = true := hq _ (by decide +kernel)
  obtain ⟨b, xs, hb, hx⟩ := State.ints_of_pre rfl harr hlen hall
  have hsm : xs.length < 2 ^ 31 := hx.choose_spec.2.2.2
  have hev : (Term.length (.arg 0)).eval args s none [] s = some (.int xs.length.toInt32) := hx.length_eval hb
  have hv := Cond.le_ints hev (show (Term.int 260).eval args s none [] s = some (.int 260) from rfl)
  have hd : xs.length.toInt32 ≤ 260 := by
    simpa [Cond.before, Cond.holds, hv] using hle
  have hN : xs.length ≤ 260 := (Int32.ofNat_le_ofNat hsm (by decide)).mp (show Int32.ofNat xs.length ≤ Int32.ofNat 260 from hd)
  exact ⟨b, xs, Cond.one_arg hc (show args[0]? = some (.ref b) from hb), hx, hN, h⟩
theorem lw_comes (l : Launch) (hflags : l.flags = flags0) : Comes l x (Jvm.Cond.code x code maxLocals ret :: tables_1) room_1 (fun tb e args s => Calls_1 tb e args s ∧ rest_1 tb e args s ∧ Pre_1 tb e args s)
    (fun _ _ args s o t => lw_Q args s o t) := by
  intro p e ha hc hk s m args below hf hfit hheap happ hpre
  obtain ⟨b, xs, hP⟩ := lw_pre_spec hpre.2.2 hpre.2.1
  obtain ⟨k, o, h1, h2, h3, hQ⟩ := lw_walk l hflags b xs p e ha hc hk s m args below hf ((Spec.applies_iff_loose hf).mp happ).1 hP trivial
  exact ⟨k, o, h1, h2, h3, hQ⟩
theorem lw_frame {s t : State} {o : Outcome} {args : Array Value} (h : Framed s o t [] 600000 7302250) :
    Framed s o t (fieldLocs frame_1_writes args s ++ arrayLocs frame_1_arrays args s ++ staticLocs frame_1_statics s) 600000 7302250 := h
theorem lw_limb (L : Cond) (hL : ∀ (args : Array Value) (s t : State), L.after args s (.returned (some (.int 1))) t = true) :
    ArmFor flags0 classFile x code maxLocals ret World_1 tables_1 room_1 Calls_1 rest_1 Pre_1
      (fun tb e a s o t => postC L tb e a s o t ∧ Framed s o t (fieldLocs frame_1_writes a s ++ arrayLocs frame_1_arrays a s ++ staticLocs frame_1_statics s) 600000 7302250) := by
  intro l hflags _ _ p e ha hc hk s m args below hf hfit hheap happ hpre
  obtain ⟨k, o, h1, h2, h3, rfl, hF⟩ := lw_comes l hflags p e ha hc hk s m args below hf hfit hheap happ hpre
  exact ⟨k, _, h1, h2, h3, hL args s _, lw_frame hF⟩
theorem i_vc : Claimed_1_1 ∧ Claimed_1_2 := ⟨lw_limb limb_1_1 (fun args s t => by simp [limb_1_1, Cond.after, Cond.holds, Cond.value]), lw_limb limb_1_2 (fun args s t => Cond.after_iff.mpr (by
  first | (rw [show limb_1_2 = Cond.eq .result (.int 1) from rfl, Cond.eq_ints (x := 1) (y := 1) rfl rfl]; simp; done) | (simp [limb_1_2, Cond.value, Term.eval]; done)))⟩
