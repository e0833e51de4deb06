/-! a run of the pure machine is a run of the machine -/
theorem zpx_mono {d pc : Nat} {q : zP} {st st' : List zV} {m m' : zMem} {j : Option Nat} (h : zpx d pc q st m = some (j, st', m')) : zln m ≤ zln m' ∧ zsl m ≤ zsl m' := by
  have hr : ∀ k n (m : zMem), zln m ≤ zln (zrows k n m) ∧ zsl m ≤ zsl (zrows k n m) := fun k n m => by
    unfold zln zsl
    rw [zrows_1]
    simp
  obtain ⟨i, len, A, B, K, Z⟩ := q
  cases i <;> simp only [zpx] at h <;> (repeat' split at h) <;> first
    | (cases h; done)
    | (cases h; exact ⟨Nat.le_refl _, Nat.le_refl _⟩)
    | (cases h; exact ⟨by rw [znew_ln]; omega, by rw [znew_sl]; omega⟩)
    | (cases h; exact ⟨Nat.le_trans (by rw [znew_ln]; omega) (hr _ _ _).1, Nat.le_trans (by rw [znew_sl]; omega) (hr _ _ _).2⟩)
theorem zfn_mem {pc : Nat} {q : zP} : ∀ {l : List (Nat × zP)}, zfn pc l = some q → (pc, q) ∈ l
  | [], h => by cases h
  | a :: r, h => by
    unfold zfn at h
    cases e : Nat.beq a.1 pc with
    | true =>
      rw [e] at h
      have e2 := Nat.eq_of_beq_eq_true e
      obtain ⟨a1, a2⟩ := a
      cases h
      dsimp only at e2
      subst e2
      exact List.mem_cons_self
    | false =>
      rw [e] at h
      exact List.mem_cons_of_mem _ (zfn_mem h)
theorem zx_mono : ∀ (n d y pc : Nat) (lv : zLv) (st : List zV) (m : zMem) (v : Option zV) (m' : zMem), zx n d y pc lv st m = some (v, m') → zln m ≤ zln m' ∧ zsl m ≤ zsl m'
  | 0, _, _, _, _, _, _, _, _, h => by cases h
  | n + 1, d, y, pc, lv, st, m, v, m', h => by
    unfold zx at h
    split at h
    · cases h
    · rename_i q hq
      cases he : zend q.1 with
      | true =>
        rw [he, cond_true] at h
        split at h
        · cases h
          exact ⟨Nat.le_refl _, Nat.le_refl _⟩
        · cases h
      | false =>
        rw [he, cond_false] at h
        cases hc : zicall q with
        | true =>
          rw [hc, cond_true] at h
          split at h
          · cases h
          · split at h
            · split at h
              · rename_i v1 m1 h1
                have a1 := zx_mono _ _ _ _ _ _ _ _ _ h1
                have a2 := zx_mono _ _ _ _ _ _ _ _ _ h
                exact ⟨Nat.le_trans a1.1 a2.1, Nat.le_trans a1.2 a2.2⟩
              · cases h
            · cases h
        | false =>
          rw [hc, cond_false] at h
          split at h
          · exact zx_mono _ _ _ _ _ _ _ _ _ h
          · split at h
            · rename_i h1
              have a1 := zpx_mono h1
              have a2 := zx_mono _ _ _ _ _ _ _ _ _ h
              exact ⟨Nat.le_trans a1.1 a2.1, Nat.le_trans a1.2 a2.2⟩
            · rename_i h1
              have a1 := zpx_mono h1
              have a2 := zx_mono _ _ _ _ _ _ _ _ _ h
              exact ⟨Nat.le_trans a1.1 a2.1, Nat.le_trans a1.2 a2.2⟩
            · cases h
set_option maxRecDepth 100000 in
theorem zcls_ok : ∀ y, y < 95 → (zM_ y).1.cls ≠ "java/lang/invoke/MethodHandle" ∧ (zM_ y).1.cls ≠ "java/lang/invoke/VarHandle" := by decide +kernel
section ZR
variable {p : Program} {l : Launch} {e : Env} {R : Room} {s : State} {m : MethodId} {args : Array Value} {below : List Frame} {meth : Method} {c : Code} {Q : State → Prop} {y d n0 s0 : Nat} {g : zG} {pc : Nat} {lv : zLv} {mm m1 : zMem} {st : List zV}
theorem s_call {e9 : Nat} (C0 : zCX p R s m args meth c y (e9 + 1) g) (Cs : s.heap.size = gB g + (n0 - 2) ∧ 2 ≤ n0) (hs0 : s0 ≤ zsl mm) {q : zP} (hy : y < 96) (hq : (pc, q) ∈ zC y) (hcall : zicall q = true) {as rest : List zV} (hst : st = as.reverse ++ rest) (hlen : as.length = zpB q) (hcats : zcats rest ≤ 8)
    (hz : zpA q < 95) (hml : (zM_ (zpA q)).2.2.1 ≤ 21) (hrcv : zrcv q mm as = true) {v : Option zV} (hM : zMet l g (zpA q) e9 as mm v m1) (hm1 : zln mm ≤ zln m1 ∧ zsl mm ≤ zsl m1) (hr1 : zln m1 - n0 ≤ R.cells) (hr2 : zsl m1 - s0 ≤ R.slots)
    (k : zW p l e R s m args below meth c Q y g n0 s0 (pc + q.2.1) lv (v.toList ++ rest) m1) : zW p l e R s m args below meth c Q y g n0 s0 pc lv st mm := by
  obtain ⟨hd, hn, hw, hN⟩ := z_ins hy hq
  have wn : ∀ w ∈ zLN (zM_ y).1.cls q, va_Nw w s := fun w h => (z_ownw C0).2.2.1 w (hN w h)
  obtain ⟨f1, f2⟩ := C0.2.2.2.2.2.2.2.2.2
  intro H locs ls hl hR hS
  have hn0 := zRep_ge Cs hR hS
  have hf : zln mm - n0 + (zln m1 - zln mm) ≤ R.cells ∧ zsl mm - s0 + (zsl m1 - zsl mm) ≤ R.slots := ⟨by omega, by omega⟩
  have hRm : (zrm e9 (zln m1 - zln mm) (zsl m1 - zsl mm)).frames + 1 ≤ R.frames ∧ 8 + ((zM_ (zpA q)).2.2.1 + 11) + (zrm e9 (zln m1 - zln mm) (zsl m1 - zsl mm)).locals ≤ R.locals := ⟨by show e9 + 1 ≤ _; omega, by show 8 + _ + 40 * e9 ≤ _; omega⟩
  have hW : 2 * (F0 m pc ls (st.map (mv g))).monitorRoom + ((rest.map (mv g)).map fun v => v.category).sum ≤ 8 := by
    show 2 * 0 + _ ≤ _
    rw [mv_cats]
    omega
  have hcl := zcls_ok _ hz
  have hts := (z_ownw C0).1
  obtain ⟨i, len, A, B, K, Z⟩ := q
  dsimp only [zpA, zpB] at *
  cases i <;> simp only [zicall] at hcall <;> first | (cases hcall; done) | skip
  case invokevirtual ix =>
    simp only [zON, Bool.and_eq_true, decide_eq_true_eq] at hn
    obtain ⟨⟨rfl, hK⟩, hdesc⟩ := hn
    have hK : K = 0 := hK
    subst hK
    simp only [zrcv] at hrcv
    split at hrcv
    · rename_i a As
      split at hrcv
      · rename_i cc nn hs
        have hrc := of_decide_eq_true hrcv
        obtain ⟨hc9, ha, hcc⟩ := hrc
        have he : (zws g mm)[a - 2]? = some (zad g a, .inr (cc, (List.range nn).map (zfv g cc (mm.2.1.getD a []) (mm.2.2 a)))) := by
          rw [zws_get ha hs]
          unfold zcell
          rw [if_pos hc9]
        have hrec := va_recv (s := s) (z_ownw C0).2.1 hR.1 (zCl_at cc hc9) he
        dsimp only at hrec
        rw [hcc] at hrec
        have hB : As.length + 1 = B := by simpa using hlen
        have hdd : (parseMethodDescriptor (zM_ A).1.desc).map (fun d => d.parameters.length) = some As.length := by
          revert hdesc
          cases parseMethodDescriptor (zM_ A).1.desc with
          | none => intro h; cases h
          | some dd =>
            intro h
            have h := Option.some.inj h
            have h : dd.parameters.length + 1 = B := h
            show some dd.parameters.length = some As.length
            congr 1
            omega
        refine z_back (v := v) (rest := rest) (m' := m1) (z := 0) (e9 := 0) (as := []) Cs hs0 hl hR hS hm1.1 hm1.2 (va_runV (As := As.map (mv g)) (b := zad g a) (nL := (zM_ y).2.2.1) (z_fix C0 hl) hM (cwV As.length hts (fun w h => ?_) rfl rfl rfl ⟨rfl, hcl.1, hcl.2, hdd⟩ hRm) ⟨zPc.blind, hrec, fun U hU hWm => z_pre C0 hR hS U hU hWm⟩ rfl (by simp) hl.1 ?_ hW hd hf) k
        · have h9 : w ∈ zGood ∧ True := by
            unfold wsV at h
            rcases List.mem_append.mp h with h | h
            · refine ⟨hw w ?_, trivial⟩
              simp only [List.mem_cons, List.not_mem_nil, or_false] at h
              rcases h with rfl | rfl | rfl | rfl <;> simp [zLW, zpA]
            · exact ⟨(zGoodIn hz w h).1, trivial⟩
          exact ⟨h9.1, zGood_good h9.1⟩
        · show st.map (mv g) = _
          rw [hst]
          simp [mv, va_rf]
      · cases hrcv
    · cases hrcv
  case invokestatic ix =>
    simp only [zON, Bool.and_eq_true, Bool.or_eq_true, decide_eq_true_eq] at hn
    obtain ⟨rfl, hn⟩ := hn
    have hK : K = 1 ∨ K = 3 := of_decide_eq_true hcall
    have hdesc : Option.map (fun d => d.parameters.length) (parseMethodDescriptor (zM_ A).1.desc) = some B := by
      rcases hn with ((h | h) | h) | h
      · have h : K = 11 := h
        omega
      · have h : K = 12 := h
        omega
      · have h : K = 13 := h
        omega
      · exact h.2
    rw [← hlen] at hdesc
    have e11 : ¬ K = 11 := by omega
    have e12 : ¬ K = 12 := by omega
    have e13 : ¬ K = 13 := by omega
    have hst1 : (Cond.static (zM_ A).1) ∈ zGood := hw _ (by simp [zLW, zpA, zpK, e11, e12, e13])
    have hin1 : (Cond.initialized (zM_ A).1.cls) ∈ zGood := hw _ (by simp [zLW, zpA, zpK, e11, e12, e13])
    have hstk : (F0 m pc ls (st.map (mv g))).stack = (as.map (mv g)).reverse ++ rest.map (mv g) := by
      show st.map (mv g) = _
      rw [hst]
      simp
    rcases hK with rfl | rfl
    · have hml1 : (Cond.methodLink (zM_ y).1.cls ix (zM_ A).1) ∈ zGood := hw _ (by simp [zLW, zpA, zpK])
      exact z_back (v := v) (rest := rest) (m' := m1) (z := 0) (e9 := 0) (as := []) Cs hs0 hl hR hS hm1.1 hm1.2 (va_runS (As := as.map (mv g)) (nL := (zM_ y).2.2.1) (z_fix C0 hl) hM ⟨callB_of as.length hts (zGoodIn hz) rfl rfl rfl (hts _ hin1) (hts _ hml1) ⟨hcl.1, hcl.2, hdesc⟩ hRm, hts _ hst1⟩ ⟨zPc.blind, fun U hU hWm => z_pre C0 hR hS U hU hWm⟩ rfl (by simp) hl.1 hstk hW hd hf) k
    · have hml1 : va_Nw (.methodLinkNest (zM_ y).1.cls ix (zM_ A).1 "EdgeJoin") s := wn _ (by simp [zLN, zpA, zpK])
      exact z_back (v := v) (rest := rest) (m' := m1) (z := 0) (e9 := 0) (as := []) Cs hs0 hl hR hS hm1.1 hm1.2 (va_runSN (As := as.map (mv g)) (nL := (zM_ y).2.2.1) (z_fix C0 hl) hM ⟨va_cnB as.length hts (zGoodIn hz) rfl rfl rfl hml1 (hts _ hin1) ⟨hcl.1, hcl.2, hdesc⟩ hRm, hts _ hst1, trivial⟩ ⟨zPc.blind, fun U hU hWm => z_pre C0 hR hS U hU hWm⟩ rfl (by simp) hl.1 hstk hW hd hf) k
  case invokespecial ix =>
    simp only [zON, Bool.and_eq_true, Bool.or_eq_true, decide_eq_true_eq] at hn
    obtain ⟨rfl, hn⟩ := hn
    have hK : K = 2 ∨ K = 4 := of_decide_eq_true hcall
    have e10 : ¬ K = 10 := by omega
    have hn2 : ((zM_ A).1.name = "<init>" ∧ (zM_ A).2.2.2 = none) ∧ Option.map (fun d => d.parameters.length + 1) (parseMethodDescriptor (zM_ A).1.desc) = some B := by
      rcases hn with h | h
      · exact absurd h e10
      · exact ⟨⟨h.1.1.2, h.1.2⟩, h.2⟩
    obtain ⟨⟨hname, hret⟩, hdesc⟩ := hn2
    simp only [zrcv] at hrcv
    split at hrcv
    · rename_i a As
      have hB : As.length + 1 = B := by simpa using hlen
      have hdd : (parseMethodDescriptor (zM_ A).1.desc).map (fun d => d.parameters.length) = some As.length := by
        revert hdesc
        cases parseMethodDescriptor (zM_ A).1.desc with
        | none => intro h; cases h
        | some dd =>
          intro h
          have h := Option.some.inj h
          have h : dd.parameters.length + 1 = B := h
          show some dd.parameters.length = some As.length
          congr 1
          omega
      have hin1 : (Cond.initialized (zM_ A).1.cls) ∈ zGood := hw _ (by simp [zLW, zpA, zpK, e10])
      have hin2 : (Cond.instanceMethod (zM_ A).1) ∈ zGood := hw _ (by simp [zLW, zpA, zpK, e10])
      have hws : zwsY A = Cond.code (zM_ A).1 (zM_ A).2.1 (zM_ A).2.2.1 none :: zGood := by
        unfold zwsY
        rw [hret]
      have hstk : (F0 m pc ls (st.map (mv g))).stack = (As.map (mv g)).reverse ++ .ref (zad g a) :: rest.map (mv g) := by
        show st.map (mv g) = _
        rw [hst]
        simp [mv, va_rf]
      rcases hK with rfl | rfl
      · have hml1 : (Cond.methodLink (zM_ y).1.cls ix (zM_ A).1) ∈ zGood := hw _ (by simp [zLW, zpA, zpK])
        exact z_back (v := v) (rest := rest) (m' := m1) (z := 0) (e9 := 0) (as := []) Cs hs0 hl hR hS hm1.1 hm1.2 (va_runI (As := As.map (mv g)) (b := zad g a) (nL := (zM_ y).2.2.1) (z_fix C0 hl) hM ⟨callB_of As.length hts (zGoodIn hz) hws rfl rfl (hts _ hin1) (hts _ hml1) ⟨hcl.1, hcl.2, hdd⟩ hRm, hname, hts _ hin2⟩ ⟨zPc.blind, fun U hU hWm => z_pre C0 hR hS U hU hWm⟩ rfl (by simp) hl.1 hstk hW hd hf) k
      · have hml1 : va_Nw (.methodLinkNest (zM_ y).1.cls ix (zM_ A).1 "EdgeJoin") s := wn _ (by simp [zLN, zpA, zpK])
        exact z_back (v := v) (rest := rest) (m' := m1) (z := 0) (e9 := 0) (as := []) Cs hs0 hl hR hS hm1.1 hm1.2 (va_runIN (As := As.map (mv g)) (b := zad g a) (nL := (zM_ y).2.2.1) (z_fix C0 hl) hM ⟨va_cnB As.length hts (zGoodIn hz) hws rfl rfl hml1 (hts _ hin1) ⟨hcl.1, hcl.2, hdd⟩ hRm, hname, hts _ hin2⟩ ⟨zPc.blind, fun U hU hWm => z_pre C0 hR hS U hU hWm⟩ rfl (by simp) hl.1 hstk hW hd hf) k
    · cases hrcv
end ZR
theorem zx_sound {l : Launch} {g : zG} : ∀ (n d y pc : Nat) (lv : zLv) (st : List zV) (mm : zMem) (v : Option zV) (m' : zMem), zx n d y pc lv st mm = some (v, m') → y < 96 →
    ∀ {p : Program} {e : Env} {R : Room} {s : State} {m : MethodId} {args : Array Value} {below : List Frame} {meth : Method} {c : Code} {Q : State → Prop} {n0 s0 : Nat}, zCX p R s m args meth c y d g → (s.heap.size = gB g + (n0 - 2) ∧ 2 ≤ n0) → s0 ≤ zsl mm → zln m' - n0 ≤ R.cells → zsl m' - s0 ≤ R.slots →
    (∀ (pc1 : Nat) (lv1 : zLv) (i : Instr), decode (zM_ y).2.1 pc1 = .ok (i, 1) → ∀ st1, zret y i st1 = some v → zW p l e R s m args below meth c Q y g n0 s0 pc1 lv1 st1 m') → zW p l e R s m args below meth c Q y g n0 s0 pc lv st mm
  | 0, _, _, _, _, _, _, _, _, h => by cases h
  | n + 1, d, y, pc, lv, st, mm, v, m', h => by
    intro hy p e R s m args below meth c Q n0 s0 C0 Cs hs0 hr1 hr2 hend
    unfold zx at h
    split at h
    · cases h
    · rename_i q hq0
      have hq := zfn_mem hq0
      cases he : zend q.1 with
      | true =>
        rw [he, cond_true] at h
        split at h
        · rename_i w hw
          cases h
          have hin := z_ins hy hq
          have hd := hin.1
          have h1 : q.2.1 = 1 := by
            have hn := hin.2.1
            obtain ⟨i, len, A, B, K, Z⟩ := q
            cases i <;> first | (cases he; done) | exact z_len1 rfl hn
          rw [h1] at hd
          exact hend pc lv q.1 hd st hw
        · cases h
      | false =>
        rw [he, cond_false] at h
        cases hc : zicall q with
        | true =>
          rw [hc, cond_true] at h
          split at h
          · cases h
          · rename_i e9
            split at h
            · rename_i hcond
              obtain ⟨hb1, hb2, hb3, hb4, hb5, hb6⟩ := hcond
              split at h
              · rename_i v1 m1 h1
                have a1 := zx_mono _ _ _ _ _ _ _ _ _ h1
                have a2 := zx_mono _ _ _ _ _ _ _ _ _ h
                have hM : zMet l g (zpA q) e9 (st.take (zpB q)).reverse mm v1 m1 := z_ofBody hb3 hb4 (fun p e s m args below meth c C1 Cs1 hend1 => zx_sound n e9 (zpA q) 0 _ _ _ _ _ h1 (Nat.lt_of_lt_of_le hb3 (by decide)) C1 Cs1 (Nat.le_refl _) (Nat.le_refl _) (Nat.le_refl _) hend1)
                refine s_call C0 Cs hs0 hy hq hc (as := (st.take (zpB q)).reverse) (rest := st.drop (zpB q)) (by rw [List.reverse_reverse, List.take_append_drop]) (by rw [List.length_reverse, List.length_take]; omega) hb2 hb3 hb5 hb6 hM a1 (by omega) (by omega) ?_
                exact zx_sound n (e9 + 1) y _ lv _ _ _ _ h hy C0 Cs (Nat.le_trans hs0 a1.2) hr1 hr2 hend
              · cases h
            · cases h
        | false =>
          rw [hc, cond_false] at h
          split at h
          · rename_i lv1 st1 h1
            have hin := z_ins hy hq
            exact zlx_sound C0 hin.1 hin.2.1 h1 (zx_sound n d y _ _ _ _ _ _ h hy C0 Cs hs0 hr1 hr2 hend)
          · split at h
            · rename_i st1 m1 h1
              have a1 := zpx_mono h1
              have a2 := zx_mono _ _ _ _ _ _ _ _ _ h
              exact zpx_sound C0 Cs hs0 hy hq h1 (by omega) (by omega) (zx_sound n d y _ _ _ _ _ _ h hy C0 Cs (Nat.le_trans hs0 a1.2) hr1 hr2 hend)
            · rename_i t st1 m1 h1
              have a1 := zpx_mono h1
              have a2 := zx_mono _ _ _ _ _ _ _ _ _ h
              exact zpx_sound C0 Cs hs0 hy hq h1 (by omega) (by omega) (zx_sound n d y _ _ _ _ _ _ h hy C0 Cs (Nat.le_trans hs0 a1.2) hr1 hr2 hend)
            · cases h
