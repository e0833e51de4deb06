/-! THE START: the law's run from its entry; the world that the tables give -/
theorem Sh0_lt {L : Nat} (hL : L < 512) : Sh0 L = iS_join1 L := by
  rw [Sh0_cons, Nat.mod_eq_of_lt hL, Nat.div_eq_of_lt hL]
  show (100, 16) :: (100, L) :: (Sh1 ++ []) = iS_join1 L
  rw [List.append_nil]
  rfl
theorem mS_lt {L : Nat} (hL : L < 512) (J : zI) : (iS_join1 L, iR_join1, J) = mS L J := by
  have e : R0 ++ List.replicate (L / 512) [] = iR_join1 := by
    rw [Nat.div_eq_of_lt hL]
    show R0 ++ [] = iR_join1
    rw [List.append_nil]
    rfl
  unfold mS
  rw [Sh0_lt hL, e]
theorem law_run {L : Nat} {I0 : zI} (hL : L ≤ 260) (h0 : ∀ j, j < 16 → I0 0 j = rimI j) (hX : ∀ j, rng (I0 1 j)) : GD 20 k_L_law 0 [some (vR 1), none, none, none, none, none, none, none] [] ([(100, 16), (100, L)], [[], []], I0) (fun r m => r = some (vI 1) ∧ ∃ (L' : Nat) (J : zI), L' ≤ 3072 ∧ m = mS L' J) := by
  refine e_new 3 2 10 rfl (by decide) rfl rfl ?_
  refine e_p 4 rfl rfl ?_
  refine e_call rfl (i_join (L := L)) rfl (fun r m hm => ?_)
  obtain ⟨S1, R1, J⟩ := m
  obtain ⟨rfl, h1, h2, ⟨a1, a2, a3, a4, a5⟩, ⟨b1, b2⟩, c1, d1, ⟨t1, t2, t3⟩, f1⟩ := hm
  dsimp only at h1 h2 a1 a2 a3 a4 a5 b1 b2 c1 d1 t1 t2 t3 f1
  subst h1
  subst h2
  refine e_l 8 rfl rfl ?_
  rw [mS_lt (by omega)]
  have k2 : ∀ q, q < 2 → J q = I0 q := fun q hq => by rw [f1 q hq, zNw_ne (by omega)]
  generalize hv : (fun k : Nat => (if k = 9 then 4 else if k = 10 then 2 else if 11 ≤ k ∧ k < 19 then -1 else 0 : Int)) = v0
  have v9 : v0 9 = 4 := by rw [← hv]; rfl
  have v10 : v0 10 = 2 := by rw [← hv]; rfl
  have vlo : ∀ k, k < 9 → v0 k = 0 := fun k hk => by
    rw [← hv]
    dsimp only
    rw [if_neg (by omega), if_neg (by omega), if_neg (by omega)]
  have vhi : ∀ k, k < 8 → v0 (11 + k) = -1 := fun k hk => by
    rw [← hv]
    dsimp only
    rw [if_neg (by omega), if_neg (by omega), if_pos (by omega)]
  have hok : OKv v0 := by
    refine ⟨by rw [vlo 0 (by omega)]; exact ⟨by decide, by decide⟩, fun j hj => by rw [vlo (1 + j) (by omega)]; decide, by rw [v9, v10]; decide, fun p hp => ?_, fun p q hp hq hne h3 h4 => ?_⟩
    · rw [vhi p hp, vlo 0 (by omega)]
      exact ⟨by decide, by decide, fun _ => rfl⟩
    · rw [vhi p hp] at h3
      exact absurd h3 (by decide)
  have hSt : StAt J 3 v0 := by
    refine ⟨?_, fun j hj => ?_, ?_, ?_, fun j hj => ?_⟩
    · rw [a1, vlo 0 (by omega)]
    · show J 4 j = _
      rw [a2, vlo (1 + j) (by omega)]
    · show J 5 0 = _
      rw [a3, v9]
    · show J 5 1 = _
      rw [a4, v10]
    · show J 6 j = _
      rw [a5 j hj, vhi j hj]
  have hSOK : SOK J := ⟨0, fun _ => 0, ⟨by omega, by rw [c1]; rfl, fun p hp => absurd hp (by omega), fun k hk => absurd hk (by omega), fun x y hx => absurd hx (by omega), fun k hk => absurd hk (by omega), fun p hp => absurd hp (by omega)⟩, fun p hp => absurd hp (by omega)⟩
  have hCI : CI J v0 (fun _ _ => 0) 0 (fun _ => 0) (fun _ => 0) 0 := by
    refine ⟨hSt, hok, ⟨⟨by rw [b2]; rfl, by omega, 0, by omega, by rw [b1]; rfl, fun k hk => absurd hk (by omega)⟩, fun k hk => absurd hk (by omega)⟩, fun j hj => ?_, ⟨by rw [d1]; rfl, by omega, fun j hj => absurd hj (by omega)⟩, hSOK, fun j hj => by rw [k2 0 (by omega)]; exact h0 j hj⟩
    have hj3 : j = 0 ∨ j = 1 ∨ j = 2 := by omega
    rcases hj3 with rfl | rfl | rfl
    · exact t1
    · exact t2
    · exact t3
  exact w_first hL (fun j => by rw [k2 1 (by omega)]; exact hX j) ⟨_, _, _, _, hCI⟩ (vlo 0 (by omega)) v9 v10 (fun p hp => vhi p hp)
theorem z_inst : ∀ c, c < 8 → Cond.instantiable (zCl.getD c zCd).1 (zCl.getD c zCd).2.2 ∈ lw_tbl := by decide +kernel
theorem k_classes {s : State} {args : Array Value} (hts : ∀ w ∈ lw_tbl, w.before args s = true) : ∃ (dC : Nat → ClassId) (dI : Nat → Nat → Nat), ∀ (c : Nat) (q : vw_C), zCl[c]? = some q → u_Kn s q.1 q.2.1 q.2.2 (dC c) (dI c) := by
  have h0 : ∀ c, c < 8 → ∃ (cC : ClassId) (iS : Nat → Nat), u_Kn s (zCl.getD c zCd).1 (zCl.getD c zCd).2.1 (zCl.getD c zCd).2.2 cC iS := fun c hc => u_known (ws := lw_tbl) (n := (zCl.getD c zCd).2.2) hts (fun w hw => (zfl_ok c hc w hw).1) (hts _ (z_inst c hc))
  obtain ⟨c0, -⟩ := h0 0 (by omega)
  have h : ∀ c, ∃ (cC : ClassId) (iS : Nat → Nat), c < 8 → u_Kn s (zCl.getD c zCd).1 (zCl.getD c zCd).2.1 (zCl.getD c zCd).2.2 cC iS := fun c => by
    by_cases hc : c < 8
    · obtain ⟨cC, iS, hk⟩ := h0 c hc
      exact ⟨cC, iS, fun _ => hk⟩
    · exact ⟨c0, fun _ => 0, fun z => absurd z hc⟩
  refine ⟨fun c => (h c).choose, fun c => (h c).choose_spec.choose, fun c q hq => ?_⟩
  have hc : c < 8 := (List.getElem?_eq_some_iff.mp hq).1
  have hs := (h c).choose_spec.choose_spec hc
  have e : zCl.getD c zCd = q := by rw [List.getD_eq_getElem?_getD, hq]; rfl
  subst e
  exact hs
theorem k_arr {s : State} {args : Array Value} {ty : FieldType} (h : (Cond.arrayClass ty).before args s = true) (hty : ty = .int ∨ ty = .byte ∨ ty = .boolean) : ∃ c : ClassId, ArrOfT s c ty ∧ va_RA s c ty := by
  obtain ⟨c, k, comp, h1, h2, h3⟩ := Cond.arrayClass_spec h
  refine ⟨c, fun n z => ⟨fun k h => (by cases h), k, h2, comp, h3⟩, ?_⟩
  rcases hty with rfl | rfl | rfl <;> exact h1
theorem k_arrA {s : State} {args : Array Value} (h : (Cond.arrayOver (.array .int)).before args s = true) : ∃ c : ClassId, ArrOfT s c (.array .int) ∧ va_RA s c (.array .int) := by
  obtain ⟨comp, c, k, h1, h2, h3, h4, h5⟩ := arrayOver_specB h
  exact ⟨c, fun n z => ⟨fun k h => (by cases h), k, h3, comp, h4⟩, h5⟩
theorem k_arrO {s : State} {args : Array Value} {C : String} (h : (Cond.arrayOver (.object C)).before args s = true) : ∃ c : ClassId, ArrOfT s c (.object C) ∧ va_RA s c (.object C) := by
  obtain ⟨comp, c, k, h1, h2, h3, h4, h5⟩ := Cond.arrayOver_spec h
  exact ⟨c, fun n z => ⟨fun k h => (by cases h), k, h3, comp, h4⟩, k, comp, h3, h4, h1, h5⟩
theorem k_rim {s : State} {args : Array Value} {tm : Term} {f : Nat → Int32} (h1 : (Cond.arrayOf tm .int).before args s = true) (h2 : (Cond.eq (.length tm) (.int 16)).before args s = true) (hel : ∀ j : Nat, j < 16 → (Cond.eq (.elem tm (.int (Int32.ofNat j))) (.int (f j))).before args s = true) : ∃ t : Nat, tm.eval args s none [] s = some (.ref t) ∧ t < s.heap.size ∧ va_X t 16 f s s.heap := by
  have hlen := va_eqt h2
  obtain ⟨t, cell, ht, hat, hv⟩ := Term.length_spec hlen
  have hsz : cell.slots.size < 2 ^ 31 := by
    simp only [Term.eval, ht, hat, Option.bind_eq_bind, Option.bind_some] at hlen
    by_cases hlt : cell.slots.size < 2147483648
    · exact hlt
    · simp [hlt] at hlen
  obtain ⟨hcell, hkn, -, -⟩ := State.arrayAt?_spec hat
  obtain ⟨hof, -⟩ := Cond.arrayOf_spec h1 ht hcell
  have h16 : cell.slots.size = 16 := by
    have e : (16 : Int32) = cell.slots.size.toInt32 := Value.int.inj hv
    have e2 : (Int32.ofNat cell.slots.size).toInt = (cell.slots.size : Int) := Int32.toInt_ofNat_small hsz
    have e3 : (Int32.ofNat cell.slots.size) = 16 := e.symm
    rw [e3] at e2
    have e4 : ((16 : Int32)).toInt = 16 := by decide +kernel
    omega
  refine ⟨t, ht, (Array.getElem?_eq_some_iff.mp hcell).1, cell, hcell, hof, hkn, h16, fun j hj => ?_⟩
  obtain ⟨a, i, cell2, q1, q2, q3, q4, q5⟩ := Term.elem_spec (va_eqt (hel j hj))
  cases ht.symm.trans q1
  cases hat.symm.trans q3
  have hi : i = Int32.ofNat j := by
    have e : (Term.int (Int32.ofNat j)).eval args s none [] s = some (.int (Int32.ofNat j)) := rfl
    cases q2.symm.trans e
    rfl
  have hc : i.toNatClampNeg = j := by rw [hi]; exact Int32.toNatClampNeg_ofNat_of_lt (by omega)
  rw [hc] at q5
  exact q5
theorem Sh0_sum (L : Nat) : ((Sh0 L).map (fun q => q.2)).sum = 16 + (L % 512 + ((Sh1.map (fun q => q.2)).sum + 4 * (L / 512))) := by
  have e : ∀ n : Nat, ((List.replicate n ((100, 4) : Nat × Nat)).map (fun q => q.2)).sum = 4 * n := fun n => by
    induction n with
    | zero => rfl
    | succ n ih =>
      rw [List.replicate_succ, List.map_cons, List.sum_cons, ih]
      show 4 + 4 * n = 4 * (n + 1)
      omega
  rw [Sh0_cons, List.map_cons, List.map_cons, List.sum_cons, List.sum_cons, List.map_append, List.sum_append, e]
