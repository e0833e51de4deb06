/-! each instruction: from the pure machine's next state to this one -/
section ZS
variable {p : Program} {l : Launch} {e : Env} {R : Room} {s : State} {m : MethodId} {args : Array Value} {below : List Frame} {meth : Method} {c : Code} {Q : State → Prop} {y d n0 s0 : Nat} {g : zG} {pc : Nat} {lv : zLv} {mm : zMem} {r : List zV}
theorem s_iconst (C0 : zCX p R s m args meth c y d g) {n : Int} (hd : decode (zM_ y).2.1 pc = .ok (.iconst n, 1)) 
    (k : zW p l e R s m args below meth c Q y g n0 s0 (pc + 1) (lv) (.inl n :: r) (mm)) : zW p l e R s m args below meth c Q y g n0 s0 (pc) (lv) (r) (mm) := by
  intro H locs ls hl hR hS
  refine lv_iconst C0.1 C0.2.1 hd rfl ?_
  exact k H locs ls hl hR hS
theorem s_bipush (C0 : zCX p R s m args meth c y d g) {n : Int} (hd : decode (zM_ y).2.1 pc = .ok (.bipush n, 2)) (hv : (Int8.ofInt n).toInt32 = Int32.ofInt n)
    (k : zW p l e R s m args below meth c Q y g n0 s0 (pc + 2) (lv) (.inl n :: r) (mm)) : zW p l e R s m args below meth c Q y g n0 s0 (pc) (lv) (r) (mm) := by
  intro H locs ls hl hR hS
  refine lv_bipush C0.1 C0.2.1 hd hv ?_
  exact k H locs ls hl hR hS
theorem s_sipush (C0 : zCX p R s m args meth c y d g) {n : Int} (hd : decode (zM_ y).2.1 pc = .ok (.sipush n, 3)) (hv : (Int16.ofInt n).toInt32 = Int32.ofInt n)
    (k : zW p l e R s m args below meth c Q y g n0 s0 (pc + 3) (lv) (.inl n :: r) (mm)) : zW p l e R s m args below meth c Q y g n0 s0 (pc) (lv) (r) (mm) := by
  intro H locs ls hl hR hS
  refine lv_sipush C0.1 C0.2.1 hd hv ?_
  exact k H locs ls hl hR hS
theorem s_lconst (C0 : zCX p R s m args meth c y d g) {n : Fin 2} (hd : decode (zM_ y).2.1 pc = .ok (.lconst n, 1)) 
    (k : zW p l e R s m args below meth c Q y g n0 s0 (pc + 1) (lv) (.inr (.inl ((n : Nat) : Int)) :: r) (mm)) : zW p l e R s m args below meth c Q y g n0 s0 (pc) (lv) (r) (mm) := by
  intro H locs ls hl hR hS
  refine lv_lconst C0.1 C0.2.1 hd rfl ?_
  exact k H locs ls hl hR hS
theorem s_ldc (C0 : zCX p R s m args meth c y d g) {ix : Nat} {z : Int} (hd : decode (zM_ y).2.1 pc = .ok (.ldc ix, 2)) (hc : (Cond.constant (zM_ y).1.cls ix (Int32.ofInt z)).before args s = true)
    (k : zW p l e R s m args below meth c Q y g n0 s0 (pc + 2) (lv) (.inl z :: r) (mm)) : zW p l e R s m args below meth c Q y g n0 s0 (pc) (lv) (r) (mm) := by
  intro H locs ls hl hR hS
  refine lv_ldc C0.1 C0.2.1 C0.2.2.2.2.2.1 hc hd ?_
  exact k H locs ls hl hR hS
theorem s_ldc2 (C0 : zCX p R s m args meth c y d g) {ix : Nat} {z : Int} (hd : decode (zM_ y).2.1 pc = .ok (.ldc2_w ix, 3)) (hc : (Cond.constantLong (zM_ y).1.cls ix (Int64.ofInt z)).before args s = true)
    (k : zW p l e R s m args below meth c Q y g n0 s0 (pc + 3) (lv) (.inr (.inl z) :: r) (mm)) : zW p l e R s m args below meth c Q y g n0 s0 (pc) (lv) (r) (mm) := by
  intro H locs ls hl hR hS
  refine lv_ldc2 C0.1 C0.2.1 C0.2.2.2.2.2.1 hc hd ?_
  exact k H locs ls hl hR hS
theorem s_iadd (C0 : zCX p R s m args meth c y d g) (hd : decode (zM_ y).2.1 pc = .ok (.iadd, 1)) {a b : Int}
    (k : zW p l e R s m args below meth c Q y g n0 s0 (pc + 1) (lv) (.inl (a + b) :: r) (mm)) : zW p l e R s m args below meth c Q y g n0 s0 (pc) (lv) (.inl b :: .inl a :: r) (mm) := by
  intro H locs ls hl hR hS
  refine lv_iadd C0.1 C0.2.1 hd ?_
  have e9 : Int32.ofInt a + Int32.ofInt b = Int32.ofInt (a + b) := by first | exact (Int32.ofInt_add _ _).symm | simp
  rw [e9]
  exact k H locs ls hl hR hS
theorem s_isub (C0 : zCX p R s m args meth c y d g) (hd : decode (zM_ y).2.1 pc = .ok (.isub, 1)) {a b : Int}
    (k : zW p l e R s m args below meth c Q y g n0 s0 (pc + 1) (lv) (.inl (a - b) :: r) (mm)) : zW p l e R s m args below meth c Q y g n0 s0 (pc) (lv) (.inl b :: .inl a :: r) (mm) := by
  intro H locs ls hl hR hS
  refine lv_isub C0.1 C0.2.1 hd ?_
  have e9 : Int32.ofInt a - Int32.ofInt b = Int32.ofInt (a - b) := by first | exact (Int32.ofInt_sub _ _).symm | simp
  rw [e9]
  exact k H locs ls hl hR hS
theorem s_imul (C0 : zCX p R s m args meth c y d g) (hd : decode (zM_ y).2.1 pc = .ok (.imul, 1)) {a b : Int}
    (k : zW p l e R s m args below meth c Q y g n0 s0 (pc + 1) (lv) (.inl (a * b) :: r) (mm)) : zW p l e R s m args below meth c Q y g n0 s0 (pc) (lv) (.inl b :: .inl a :: r) (mm) := by
  intro H locs ls hl hR hS
  refine lv_imul C0.1 C0.2.1 hd ?_
  have e9 : Int32.ofInt a * Int32.ofInt b = Int32.ofInt (a * b) := by first | exact (Int32.ofInt_mul _ _).symm | simp
  rw [e9]
  exact k H locs ls hl hR hS
theorem s_imuln (C0 : zCX p R s m args meth c y d g) (hd : decode (zM_ y).2.1 pc = .ok (.imul, 1)) {a b : Int}
    (k : zW p l e R s m args below meth c Q y g n0 s0 (pc + 1) (lv) (.inl (n32 (a * b)) :: r) (mm)) : zW p l e R s m args below meth c Q y g n0 s0 (pc) (lv) (.inl b :: .inl a :: r) (mm) := by
  intro H locs ls hl hR hS
  refine lv_imul C0.1 C0.2.1 hd ?_
  have e9 : Int32.ofInt a * Int32.ofInt b = Int32.ofInt (n32 (a * b)) := by
    rw [i32_n]
    exact (Int32.ofInt_mul _ _).symm
  rw [e9]
  exact k H locs ls hl hR hS
theorem s_ladd (C0 : zCX p R s m args meth c y d g) (hd : decode (zM_ y).2.1 pc = .ok (.ladd, 1)) {a b : Int}
    (k : zW p l e R s m args below meth c Q y g n0 s0 (pc + 1) (lv) (.inr (.inl (a + b)) :: r) (mm)) : zW p l e R s m args below meth c Q y g n0 s0 (pc) (lv) (.inr (.inl b) :: .inr (.inl a) :: r) (mm) := by
  intro H locs ls hl hR hS
  refine lv_ladd C0.1 C0.2.1 hd ?_
  have e9 : Int64.ofInt a + Int64.ofInt b = Int64.ofInt (a + b) := by first | exact (Int64.ofInt_add _ _).symm | simp
  rw [e9]
  exact k H locs ls hl hR hS
theorem s_lmul (C0 : zCX p R s m args meth c y d g) (hd : decode (zM_ y).2.1 pc = .ok (.lmul, 1)) {a b : Int}
    (k : zW p l e R s m args below meth c Q y g n0 s0 (pc + 1) (lv) (.inr (.inl (a * b)) :: r) (mm)) : zW p l e R s m args below meth c Q y g n0 s0 (pc) (lv) (.inr (.inl b) :: .inr (.inl a) :: r) (mm) := by
  intro H locs ls hl hR hS
  refine lv_lmul C0.1 C0.2.1 hd ?_
  have e9 : Int64.ofInt a * Int64.ofInt b = Int64.ofInt (a * b) := by first | exact (Int64.ofInt_mul _ _).symm | simp
  rw [e9]
  exact k H locs ls hl hR hS
theorem s_ineg (C0 : zCX p R s m args meth c y d g) (hd : decode (zM_ y).2.1 pc = .ok (.ineg, 1)) {a : Int}
    (k : zW p l e R s m args below meth c Q y g n0 s0 (pc + 1) (lv) (.inl (-a) :: r) (mm)) : zW p l e R s m args below meth c Q y g n0 s0 (pc) (lv) (.inl a :: r) (mm) := by
  intro H locs ls hl hR hS
  refine lv_ineg C0.1 C0.2.1 hd ?_
  have e9 : -Int32.ofInt a = Int32.ofInt (-a) := by first | exact (Int32.ofInt_neg _).symm | simp
  rw [e9]
  exact k H locs ls hl hR hS
theorem s_ishl (C0 : zCX p R s m args meth c y d g) (hd : decode (zM_ y).2.1 pc = .ok (.ishl, 1)) {a b : Int}
    (k : zW p l e R s m args below meth c Q y g n0 s0 (pc + 1) (lv) (.inl (zshl a b) :: r) (mm)) : zW p l e R s m args below meth c Q y g n0 s0 (pc) (lv) (.inl b :: .inl a :: r) (mm) := by
  intro H locs ls hl hR hS
  refine lv_ishl C0.1 C0.2.1 hd ?_
  have e9 := k H locs ls hl hR hS
  simp only [zshl, List.map_cons, mv, Int32.ofInt_toInt] at e9
  exact e9
theorem s_ishr (C0 : zCX p R s m args meth c y d g) (hd : decode (zM_ y).2.1 pc = .ok (.ishr, 1)) {a b : Int}
    (k : zW p l e R s m args below meth c Q y g n0 s0 (pc + 1) (lv) (.inl (zshr a b) :: r) (mm)) : zW p l e R s m args below meth c Q y g n0 s0 (pc) (lv) (.inl b :: .inl a :: r) (mm) := by
  intro H locs ls hl hR hS
  refine lv_ishr C0.1 C0.2.1 hd ?_
  have e9 := k H locs ls hl hR hS
  simp only [zshr, List.map_cons, mv, Int32.ofInt_toInt] at e9
  exact e9
theorem s_iand (C0 : zCX p R s m args meth c y d g) (hd : decode (zM_ y).2.1 pc = .ok (.iand, 1)) {a b : Int}
    (k : zW p l e R s m args below meth c Q y g n0 s0 (pc + 1) (lv) (.inl (zand a b) :: r) (mm)) : zW p l e R s m args below meth c Q y g n0 s0 (pc) (lv) (.inl b :: .inl a :: r) (mm) := by
  intro H locs ls hl hR hS
  refine lv_iand C0.1 C0.2.1 hd ?_
  have e9 := k H locs ls hl hR hS
  simp only [zand, List.map_cons, mv, Int32.ofInt_toInt] at e9
  exact e9
theorem s_ior (C0 : zCX p R s m args meth c y d g) (hd : decode (zM_ y).2.1 pc = .ok (.ior, 1)) {a b : Int}
    (k : zW p l e R s m args below meth c Q y g n0 s0 (pc + 1) (lv) (.inl (zor a b) :: r) (mm)) : zW p l e R s m args below meth c Q y g n0 s0 (pc) (lv) (.inl b :: .inl a :: r) (mm) := by
  intro H locs ls hl hR hS
  refine lv_ior C0.1 C0.2.1 hd ?_
  have e9 := k H locs ls hl hR hS
  simp only [zor, List.map_cons, mv, Int32.ofInt_toInt] at e9
  exact e9
theorem s_idiv (C0 : zCX p R s m args meth c y d g) (hd : decode (zM_ y).2.1 pc = .ok (.idiv, 1)) {a b : Int} (hb : ¬ n32 b = 0)
    (k : zW p l e R s m args below meth c Q y g n0 s0 (pc + 1) (lv) (.inl (zdiv a b) :: r) (mm)) : zW p l e R s m args below meth c Q y g n0 s0 (pc) (lv) (.inl b :: .inl a :: r) (mm) := by
  intro H locs ls hl hR hS
  refine lv_idiv C0.1 C0.2.1 hd (fun q => hb (by have := congrArg Int32.toInt q; exact this)) ?_
  have e9 := k H locs ls hl hR hS
  simp only [zdiv, List.map_cons, mv, Int32.ofInt_toInt] at e9
  exact e9
theorem s_irem (C0 : zCX p R s m args meth c y d g) (hd : decode (zM_ y).2.1 pc = .ok (.irem, 1)) {a b : Int} (hb : ¬ n32 b = 0)
    (k : zW p l e R s m args below meth c Q y g n0 s0 (pc + 1) (lv) (.inl (zrem a b) :: r) (mm)) : zW p l e R s m args below meth c Q y g n0 s0 (pc) (lv) (.inl b :: .inl a :: r) (mm) := by
  intro H locs ls hl hR hS
  refine lv_irem C0.1 C0.2.1 hd (fun q => hb (by have := congrArg Int32.toInt q; exact this)) ?_
  have e9 := k H locs ls hl hR hS
  simp only [zrem, List.map_cons, mv, Int32.ofInt_toInt] at e9
  exact e9
theorem s_ldiv (C0 : zCX p R s m args meth c y d g) (hd : decode (zM_ y).2.1 pc = .ok (.ldiv, 1)) {a b : Int} (hb : ¬ n64 b = 0)
    (k : zW p l e R s m args below meth c Q y g n0 s0 (pc + 1) (lv) (.inr (.inl (zldiv a b)) :: r) (mm)) : zW p l e R s m args below meth c Q y g n0 s0 (pc) (lv) (.inr (.inl b) :: .inr (.inl a) :: r) (mm) := by
  intro H locs ls hl hR hS
  refine lv_ldiv C0.1 C0.2.1 hd (fun q => hb (by have := congrArg Int64.toInt q; exact this)) ?_
  have e9 := k H locs ls hl hR hS
  simp only [zldiv, List.map_cons, mv, Int64.ofInt_toInt] at e9
  exact e9
theorem s_lrem (C0 : zCX p R s m args meth c y d g) (hd : decode (zM_ y).2.1 pc = .ok (.lrem, 1)) {a b : Int} (hb : ¬ n64 b = 0)
    (k : zW p l e R s m args below meth c Q y g n0 s0 (pc + 1) (lv) (.inr (.inl (zlrem a b)) :: r) (mm)) : zW p l e R s m args below meth c Q y g n0 s0 (pc) (lv) (.inr (.inl b) :: .inr (.inl a) :: r) (mm) := by
  intro H locs ls hl hR hS
  refine lv_lrem C0.1 C0.2.1 hd (fun q => hb (by have := congrArg Int64.toInt q; exact this)) ?_
  have e9 := k H locs ls hl hR hS
  simp only [zlrem, List.map_cons, mv, Int64.ofInt_toInt] at e9
  exact e9
theorem s_lcmp (C0 : zCX p R s m args meth c y d g) (hd : decode (zM_ y).2.1 pc = .ok (.lcmp, 1)) {a b : Int}
    (k : zW p l e R s m args below meth c Q y g n0 s0 (pc + 1) (lv) (.inl (zlcmp a b) :: r) (mm)) : zW p l e R s m args below meth c Q y g n0 s0 (pc) (lv) (.inr (.inl b) :: .inr (.inl a) :: r) (mm) := by
  intro H locs ls hl hR hS
  refine W.lcmp C0.1 C0.2.1 hd ?_
  have e9 : lg_cmp (Int64.ofInt a) (Int64.ofInt b) = Int32.ofInt (zlcmp a b) := by
    unfold lg_cmp zlcmp
    simp only [gt_iff_lt, i64_lt, i64_eq]
    split
    · rfl
    · split
      · rfl
      · rfl
  rw [e9]
  exact k H locs ls hl hR hS
theorem s_i2l (C0 : zCX p R s m args meth c y d g) (hd : decode (zM_ y).2.1 pc = .ok (.i2l, 1)) {a : Int}
    (k : zW p l e R s m args below meth c Q y g n0 s0 (pc + 1) (lv) (.inr (.inl (n32 a)) :: r) (mm)) : zW p l e R s m args below meth c Q y g n0 s0 (pc) (lv) (.inl a :: r) (mm) := by
  intro H locs ls hl hR hS
  refine lv_i2l C0.1 C0.2.1 hd (show (Int32.ofInt a).toInt64 = Int64.ofInt (n32 a) from rfl) ?_
  exact k H locs ls hl hR hS
theorem s_l2i (C0 : zCX p R s m args meth c y d g) (hd : decode (zM_ y).2.1 pc = .ok (.l2i, 1)) {a : Int}
    (k : zW p l e R s m args below meth c Q y g n0 s0 (pc + 1) (lv) (.inl (zl2i a) :: r) (mm)) : zW p l e R s m args below meth c Q y g n0 s0 (pc) (lv) (.inr (.inl a) :: r) (mm) := by
  intro H locs ls hl hR hS
  refine lv_l2i C0.1 C0.2.1 hd (show (Int64.ofInt a).toInt32 = Int32.ofInt (zl2i a) from (Int32.ofInt_toInt _).symm) ?_
  exact k H locs ls hl hR hS
theorem s_i2b (C0 : zCX p R s m args meth c y d g) (hd : decode (zM_ y).2.1 pc = .ok (.i2b, 1)) {a : Int}
    (k : zW p l e R s m args below meth c Q y g n0 s0 (pc + 1) (lv) (.inl (zi2b a) :: r) (mm)) : zW p l e R s m args below meth c Q y g n0 s0 (pc) (lv) (.inl a :: r) (mm) := by
  intro H locs ls hl hR hS
  refine lv_i2b C0.1 C0.2.1 hd (show (Int32.ofInt a).toInt8.toInt32 = Int32.ofInt (zi2b a) from (Int32.ofInt_toInt _).symm) ?_
  exact k H locs ls hl hR hS
theorem s_dup (C0 : zCX p R s m args meth c y d g) (hd : decode (zM_ y).2.1 pc = .ok (.dup, 1)) {v : zV} (hv : zcat v = 1)
    (k : zW p l e R s m args below meth c Q y g n0 s0 (pc + 1) (lv) (v :: v :: r) (mm)) : zW p l e R s m args below meth c Q y g n0 s0 (pc) (lv) (v :: r) (mm) := by
  intro H locs ls hl hR hS
  refine lv_dup C0.1 C0.2.1 hd (by rw [mv_cat]; exact hv) ?_
  exact k H locs ls hl hR hS
theorem s_dup2 (C0 : zCX p R s m args meth c y d g) (hd : decode (zM_ y).2.1 pc = .ok (.dup2, 1)) {v w : zV} (hv : zcat v = 1) (hw : zcat w = 1)
    (k : zW p l e R s m args below meth c Q y g n0 s0 (pc + 1) (lv) (v :: w :: v :: w :: r) (mm)) : zW p l e R s m args below meth c Q y g n0 s0 (pc) (lv) (v :: w :: r) (mm) := by
  intro H locs ls hl hR hS
  refine lv_dup2_11 C0.1 C0.2.1 hd (by rw [mv_cat]; exact hv) (by rw [mv_cat]; exact hw) ?_
  exact k H locs ls hl hR hS
theorem s_goto (C0 : zCX p R s m args meth c y d g) {o : Int} (hd : decode (zM_ y).2.1 pc = .ok (.goto o, 3)) {t : Nat} (ht : (pc : Int) + o = (t : Int))
    (k : zW p l e R s m args below meth c Q y g n0 s0 (t) (lv) (r) (mm)) : zW p l e R s m args below meth c Q y g n0 s0 (pc) (lv) (r) (mm) := by
  intro H locs ls hl hR hS
  refine lv_goto C0.1 C0.2.1 hd ht ?_
  exact k H locs ls hl hR hS
theorem s_if_eq (C0 : zCX p R s m args meth c y d g) {o : Int} (hd : decode (zM_ y).2.1 pc = .ok (.ifCond .eq o, 3)) {t : Nat} (ht : (pc : Int) + o = (t : Int)) {a : Int}
    (k : zW p l e R s m args below meth c Q y g n0 s0 ((if zcmp .eq (n32 a) 0 then some t else none).getD (pc + 3)) (lv) (r) (mm)) : zW p l e R s m args below meth c Q y g n0 s0 (pc) (lv) (.inl a :: r) (mm) := by
  intro H locs ls hl hR hS
  have e9 := i32_eq a 0
  rw [n32_0] at e9
  change (Int32.ofInt a = 0 ↔ n32 a = 0) at e9
  refine lv_if_eq C0.1 C0.2.1 hd ht (fun q => ?_) (fun q => ?_)
  all_goals rw [e9] at q
  all_goals (have k9 := k H locs ls hl hR hS; simp only [zcmp, q, decide_true, decide_false, if_true, if_false, Option.getD_some, Option.getD_none, Bool.false_eq_true, not_true_eq_false, not_false_eq_true] at k9; exact k9)
theorem s_ic_eq (C0 : zCX p R s m args meth c y d g) {o : Int} (hd : decode (zM_ y).2.1 pc = .ok (.if_icmp .eq o, 3)) {t : Nat} (ht : (pc : Int) + o = (t : Int)) {a b : Int}
    (k : zW p l e R s m args below meth c Q y g n0 s0 ((if zcmp .eq (n32 a) (n32 b) then some t else none).getD (pc + 3)) (lv) (r) (mm)) : zW p l e R s m args below meth c Q y g n0 s0 (pc) (lv) (.inl b :: .inl a :: r) (mm) := by
  intro H locs ls hl hR hS
  have e9 := i32_eq a b
  refine lv_icmp_eq C0.1 C0.2.1 hd ht (fun q => ?_) (fun q => ?_)
  all_goals rw [e9] at q
  all_goals (have k9 := k H locs ls hl hR hS; simp only [zcmp, q, decide_true, decide_false, if_true, if_false, Option.getD_some, Option.getD_none, Bool.false_eq_true, not_true_eq_false, not_false_eq_true] at k9; exact k9)
theorem s_if_ne (C0 : zCX p R s m args meth c y d g) {o : Int} (hd : decode (zM_ y).2.1 pc = .ok (.ifCond .ne o, 3)) {t : Nat} (ht : (pc : Int) + o = (t : Int)) {a : Int}
    (k : zW p l e R s m args below meth c Q y g n0 s0 ((if zcmp .ne (n32 a) 0 then some t else none).getD (pc + 3)) (lv) (r) (mm)) : zW p l e R s m args below meth c Q y g n0 s0 (pc) (lv) (.inl a :: r) (mm) := by
  intro H locs ls hl hR hS
  have e9 := i32_eq a 0
  rw [n32_0] at e9
  change (Int32.ofInt a = 0 ↔ n32 a = 0) at e9
  refine lv_if_ne C0.1 C0.2.1 hd ht (fun q => ?_) (fun q => ?_)
  all_goals rw [e9] at q
  all_goals (have k9 := k H locs ls hl hR hS; simp only [zcmp, q, decide_true, decide_false, if_true, if_false, Option.getD_some, Option.getD_none, Bool.false_eq_true, not_true_eq_false, not_false_eq_true] at k9; exact k9)
theorem s_ic_ne (C0 : zCX p R s m args meth c y d g) {o : Int} (hd : decode (zM_ y).2.1 pc = .ok (.if_icmp .ne o, 3)) {t : Nat} (ht : (pc : Int) + o = (t : Int)) {a b : Int}
    (k : zW p l e R s m args below meth c Q y g n0 s0 ((if zcmp .ne (n32 a) (n32 b) then some t else none).getD (pc + 3)) (lv) (r) (mm)) : zW p l e R s m args below meth c Q y g n0 s0 (pc) (lv) (.inl b :: .inl a :: r) (mm) := by
  intro H locs ls hl hR hS
  have e9 := i32_eq a b
  refine lv_icmp_ne C0.1 C0.2.1 hd ht (fun q => ?_) (fun q => ?_)
  all_goals rw [e9] at q
  all_goals (have k9 := k H locs ls hl hR hS; simp only [zcmp, q, decide_true, decide_false, if_true, if_false, Option.getD_some, Option.getD_none, Bool.false_eq_true, not_true_eq_false, not_false_eq_true] at k9; exact k9)
theorem s_if_lt (C0 : zCX p R s m args meth c y d g) {o : Int} (hd : decode (zM_ y).2.1 pc = .ok (.ifCond .lt o, 3)) {t : Nat} (ht : (pc : Int) + o = (t : Int)) {a : Int}
    (k : zW p l e R s m args below meth c Q y g n0 s0 ((if zcmp .lt (n32 a) 0 then some t else none).getD (pc + 3)) (lv) (r) (mm)) : zW p l e R s m args below meth c Q y g n0 s0 (pc) (lv) (.inl a :: r) (mm) := by
  intro H locs ls hl hR hS
  have e9 := i32_lt a 0
  rw [n32_0] at e9
  change (Int32.ofInt a < 0 ↔ n32 a < 0) at e9
  refine lv_if_lt C0.1 C0.2.1 hd ht (fun q => ?_) (fun q => ?_)
  all_goals rw [e9] at q
  all_goals (have k9 := k H locs ls hl hR hS; simp only [zcmp, q, decide_true, decide_false, if_true, if_false, Option.getD_some, Option.getD_none, Bool.false_eq_true, not_true_eq_false, not_false_eq_true] at k9; exact k9)
theorem s_ic_lt (C0 : zCX p R s m args meth c y d g) {o : Int} (hd : decode (zM_ y).2.1 pc = .ok (.if_icmp .lt o, 3)) {t : Nat} (ht : (pc : Int) + o = (t : Int)) {a b : Int}
    (k : zW p l e R s m args below meth c Q y g n0 s0 ((if zcmp .lt (n32 a) (n32 b) then some t else none).getD (pc + 3)) (lv) (r) (mm)) : zW p l e R s m args below meth c Q y g n0 s0 (pc) (lv) (.inl b :: .inl a :: r) (mm) := by
  intro H locs ls hl hR hS
  have e9 := i32_lt a b
  refine lv_icmp_lt C0.1 C0.2.1 hd ht (fun q => ?_) (fun q => ?_)
  all_goals rw [e9] at q
  all_goals (have k9 := k H locs ls hl hR hS; simp only [zcmp, q, decide_true, decide_false, if_true, if_false, Option.getD_some, Option.getD_none, Bool.false_eq_true, not_true_eq_false, not_false_eq_true] at k9; exact k9)
theorem s_if_ge (C0 : zCX p R s m args meth c y d g) {o : Int} (hd : decode (zM_ y).2.1 pc = .ok (.ifCond .ge o, 3)) {t : Nat} (ht : (pc : Int) + o = (t : Int)) {a : Int}
    (k : zW p l e R s m args below meth c Q y g n0 s0 ((if zcmp .ge (n32 a) 0 then some t else none).getD (pc + 3)) (lv) (r) (mm)) : zW p l e R s m args below meth c Q y g n0 s0 (pc) (lv) (.inl a :: r) (mm) := by
  intro H locs ls hl hR hS
  have e9 := i32_le 0 a
  rw [n32_0] at e9
  change (0 ≤ Int32.ofInt a ↔ 0 ≤ n32 a) at e9
  refine lv_if_ge C0.1 C0.2.1 hd ht (fun q => ?_) (fun q => ?_)
  all_goals rw [e9] at q
  all_goals (have k9 := k H locs ls hl hR hS; simp only [zcmp, q, decide_true, decide_false, if_true, if_false, Option.getD_some, Option.getD_none, Bool.false_eq_true, not_true_eq_false, not_false_eq_true] at k9; exact k9)
theorem s_ic_ge (C0 : zCX p R s m args meth c y d g) {o : Int} (hd : decode (zM_ y).2.1 pc = .ok (.if_icmp .ge o, 3)) {t : Nat} (ht : (pc : Int) + o = (t : Int)) {a b : Int}
    (k : zW p l e R s m args below meth c Q y g n0 s0 ((if zcmp .ge (n32 a) (n32 b) then some t else none).getD (pc + 3)) (lv) (r) (mm)) : zW p l e R s m args below meth c Q y g n0 s0 (pc) (lv) (.inl b :: .inl a :: r) (mm) := by
  intro H locs ls hl hR hS
  have e9 := i32_le b a
  refine lv_icmp_ge C0.1 C0.2.1 hd ht (fun q => ?_) (fun q => ?_)
  all_goals rw [e9] at q
  all_goals (have k9 := k H locs ls hl hR hS; simp only [zcmp, q, decide_true, decide_false, if_true, if_false, Option.getD_some, Option.getD_none, Bool.false_eq_true, not_true_eq_false, not_false_eq_true] at k9; exact k9)
theorem s_if_gt (C0 : zCX p R s m args meth c y d g) {o : Int} (hd : decode (zM_ y).2.1 pc = .ok (.ifCond .gt o, 3)) {t : Nat} (ht : (pc : Int) + o = (t : Int)) {a : Int}
    (k : zW p l e R s m args below meth c Q y g n0 s0 ((if zcmp .gt (n32 a) 0 then some t else none).getD (pc + 3)) (lv) (r) (mm)) : zW p l e R s m args below meth c Q y g n0 s0 (pc) (lv) (.inl a :: r) (mm) := by
  intro H locs ls hl hR hS
  have e9 := i32_lt 0 a
  rw [n32_0] at e9
  change (0 < Int32.ofInt a ↔ 0 < n32 a) at e9
  refine lv_if_gt C0.1 C0.2.1 hd ht (fun q => ?_) (fun q => ?_)
  all_goals rw [e9] at q
  all_goals (have k9 := k H locs ls hl hR hS; simp only [zcmp, q, decide_true, decide_false, if_true, if_false, Option.getD_some, Option.getD_none, Bool.false_eq_true, not_true_eq_false, not_false_eq_true] at k9; exact k9)
theorem s_ic_gt (C0 : zCX p R s m args meth c y d g) {o : Int} (hd : decode (zM_ y).2.1 pc = .ok (.if_icmp .gt o, 3)) {t : Nat} (ht : (pc : Int) + o = (t : Int)) {a b : Int}
    (k : zW p l e R s m args below meth c Q y g n0 s0 ((if zcmp .gt (n32 a) (n32 b) then some t else none).getD (pc + 3)) (lv) (r) (mm)) : zW p l e R s m args below meth c Q y g n0 s0 (pc) (lv) (.inl b :: .inl a :: r) (mm) := by
  intro H locs ls hl hR hS
  have e9 := i32_lt b a
  refine lv_icmp_gt C0.1 C0.2.1 hd ht (fun q => ?_) (fun q => ?_)
  all_goals rw [e9] at q
  all_goals (have k9 := k H locs ls hl hR hS; simp only [zcmp, q, decide_true, decide_false, if_true, if_false, Option.getD_some, Option.getD_none, Bool.false_eq_true, not_true_eq_false, not_false_eq_true] at k9; exact k9)
theorem s_if_le (C0 : zCX p R s m args meth c y d g) {o : Int} (hd : decode (zM_ y).2.1 pc = .ok (.ifCond .le o, 3)) {t : Nat} (ht : (pc : Int) + o = (t : Int)) {a : Int}
    (k : zW p l e R s m args below meth c Q y g n0 s0 ((if zcmp .le (n32 a) 0 then some t else none).getD (pc + 3)) (lv) (r) (mm)) : zW p l e R s m args below meth c Q y g n0 s0 (pc) (lv) (.inl a :: r) (mm) := by
  intro H locs ls hl hR hS
  have e9 := i32_le a 0
  rw [n32_0] at e9
  change (Int32.ofInt a ≤ 0 ↔ n32 a ≤ 0) at e9
  refine lv_if_le C0.1 C0.2.1 hd ht (fun q => ?_) (fun q => ?_)
  all_goals rw [e9] at q
  all_goals (have k9 := k H locs ls hl hR hS; simp only [zcmp, q, decide_true, decide_false, if_true, if_false, Option.getD_some, Option.getD_none, Bool.false_eq_true, not_true_eq_false, not_false_eq_true] at k9; exact k9)
theorem s_ic_le (C0 : zCX p R s m args meth c y d g) {o : Int} (hd : decode (zM_ y).2.1 pc = .ok (.if_icmp .le o, 3)) {t : Nat} (ht : (pc : Int) + o = (t : Int)) {a b : Int}
    (k : zW p l e R s m args below meth c Q y g n0 s0 ((if zcmp .le (n32 a) (n32 b) then some t else none).getD (pc + 3)) (lv) (r) (mm)) : zW p l e R s m args below meth c Q y g n0 s0 (pc) (lv) (.inl b :: .inl a :: r) (mm) := by
  intro H locs ls hl hR hS
  have e9 := i32_le a b
  refine lv_icmp_le C0.1 C0.2.1 hd ht (fun q => ?_) (fun q => ?_)
  all_goals rw [e9] at q
  all_goals (have k9 := k H locs ls hl hR hS; simp only [zcmp, q, decide_true, decide_false, if_true, if_false, Option.getD_some, Option.getD_none, Bool.false_eq_true, not_true_eq_false, not_false_eq_true] at k9; exact k9)
theorem s_table (C0 : zCX p R s m args meth c y d g) {df lo hi : Int} {os : Array Int} {len : Nat} (hd : decode (zM_ y).2.1 pc = .ok (.tableswitch df lo hi os, len)) {a : Int} {o : Int} (ho : (n32 a < lo ∨ hi < n32 a) ∧ o = df ∨ ¬ (n32 a < lo ∨ hi < n32 a) ∧ os[(n32 a - lo).toNat]? = some o) (h0 : 0 ≤ (pc : Int) + o)
    (k : zW p l e R s m args below meth c Q y g n0 s0 (((pc : Int) + o).toNat) (lv) (r) (mm)) : zW p l e R s m args below meth c Q y g n0 s0 (pc) (lv) (.inl a :: r) (mm) := by
  intro H locs ls hl hR hS
  rcases ho with ⟨q, rfl⟩ | ⟨q, ho⟩
  · refine lv_tableOut (tgt := ((pc : Int) + o).toNat) C0.1 C0.2.1 hd q (by omega) ?_
    exact k H locs ls hl hR hS
  · refine lv_tableIn (tgt := ((pc : Int) + o).toNat) C0.1 C0.2.1 hd (fun z => q (Or.inl z)) (fun z => q (Or.inr z)) ho (by omega) ?_
    exact k H locs ls hl hR hS
theorem s_lookup (C0 : zCX p R s m args meth c y d g) {df : Int} {ps : Array (Int × Int)} {len : Nat} (hd : decode (zM_ y).2.1 pc = .ok (.lookupswitch df ps, len)) {a : Int} (hp : (ps.toList.zip (ps.toList.drop 1)).all (fun (a, next) => a.1 < next.1) = true) (h0 : 0 ≤ (pc : Int) + Op.lookupswitch.offset ps.toList df (n32 a))
    (k : zW p l e R s m args below meth c Q y g n0 s0 (((pc : Int) + Op.lookupswitch.offset ps.toList df (n32 a)).toNat) (lv) (r) (mm)) : zW p l e R s m args below meth c Q y g n0 s0 (pc) (lv) (.inl a :: r) (mm) := by
  intro H locs ls hl hR hS
  refine lv_lookup (tgt := ((pc : Int) + Op.lookupswitch.offset ps.toList df (n32 a)).toNat) C0.1 C0.2.1 hd hp rfl (Int.toNat_of_nonneg h0).symm ?_
  exact k H locs ls hl hR hS
theorem s_iload_n (C0 : zCX p R s m args meth c y d g) {k9 : Fin 4} (hd : decode (zM_ y).2.1 pc = .ok (.iload_n k9, 1)) {x : Int} (hv : zld lv k9 = some (.inl x))
    (k : zW p l e R s m args below meth c Q y g n0 s0 (pc + 1) (lv) (.inl x :: r) (mm)) : zW p l e R s m args below meth c Q y g n0 s0 (pc) (lv) (r) (mm) := by
  intro H locs ls hl hR hS
  refine lv_iload_n C0.1 C0.2.1 hd rfl (hl.at hv) ?_
  exact k H locs ls hl hR hS
theorem s_iload (C0 : zCX p R s m args meth c y d g) {k9 : Nat} (hd : decode (zM_ y).2.1 pc = .ok (.iload k9, 2)) {x : Int} (hv : zld lv k9 = some (.inl x))
    (k : zW p l e R s m args below meth c Q y g n0 s0 (pc + 2) (lv) (.inl x :: r) (mm)) : zW p l e R s m args below meth c Q y g n0 s0 (pc) (lv) (r) (mm) := by
  intro H locs ls hl hR hS
  refine lv_iload C0.1 C0.2.1 hd (hl.at hv) ?_
  exact k H locs ls hl hR hS
theorem s_lload_n (C0 : zCX p R s m args meth c y d g) {k9 : Fin 4} (hd : decode (zM_ y).2.1 pc = .ok (.lload_n k9, 1)) {x : Int} (hv : zld lv k9 = some (.inr (.inl x)))
    (k : zW p l e R s m args below meth c Q y g n0 s0 (pc + 1) (lv) (.inr (.inl x) :: r) (mm)) : zW p l e R s m args below meth c Q y g n0 s0 (pc) (lv) (r) (mm) := by
  intro H locs ls hl hR hS
  refine lv_lload_n C0.1 C0.2.1 hd rfl (hl.at hv) ?_
  exact k H locs ls hl hR hS
theorem s_lload (C0 : zCX p R s m args meth c y d g) {k9 : Nat} (hd : decode (zM_ y).2.1 pc = .ok (.lload k9, 2)) {x : Int} (hv : zld lv k9 = some (.inr (.inl x)))
    (k : zW p l e R s m args below meth c Q y g n0 s0 (pc + 2) (lv) (.inr (.inl x) :: r) (mm)) : zW p l e R s m args below meth c Q y g n0 s0 (pc) (lv) (r) (mm) := by
  intro H locs ls hl hR hS
  refine lv_lload C0.1 C0.2.1 hd (hl.at hv) ?_
  exact k H locs ls hl hR hS
theorem s_aload_n (C0 : zCX p R s m args meth c y d g) {k9 : Fin 4} (hd : decode (zM_ y).2.1 pc = .ok (.aload_n k9, 1)) {x : Nat} (hv : zld lv k9 = some (.inr (.inr (some x))))
    (k : zW p l e R s m args below meth c Q y g n0 s0 (pc + 1) (lv) (.inr (.inr (some x)) :: r) (mm)) : zW p l e R s m args below meth c Q y g n0 s0 (pc) (lv) (r) (mm) := by
  intro H locs ls hl hR hS
  refine lv_aload_n C0.1 C0.2.1 hd rfl (hl.at hv) ?_
  exact k H locs ls hl hR hS
theorem s_istore_n (C0 : zCX p R s m args meth c y d g) {k9 : Fin 4} (hd : decode (zM_ y).2.1 pc = .ok (.istore_n k9, 1)) {x : Int} (hk : k9 < lv.length)
    (k : zW p l e R s m args below meth c Q y g n0 s0 (pc + 1) (zset k9 (.inl x) lv) (r) (mm)) : zW p l e R s m args below meth c Q y g n0 s0 (pc) (lv) (.inl x :: r) (mm) := by
  intro H locs ls hl hR hS
  have hk : (k9 : Nat) < (zM_ y).2.2.1 := by rw [← hl.2.2.1]; exact hk
  refine lv_istore_n C0.1 C0.2.1 hd rfl hl.has hk rfl (fun ls2 h2 => ?_)
  exact k H locs ls2 (hl.set hk h2) hR hS
theorem s_istore (C0 : zCX p R s m args meth c y d g) {k9 : Nat} (hd : decode (zM_ y).2.1 pc = .ok (.istore k9, 2)) {x : Int} (hk : k9 < lv.length)
    (k : zW p l e R s m args below meth c Q y g n0 s0 (pc + 2) (zset k9 (.inl x) lv) (r) (mm)) : zW p l e R s m args below meth c Q y g n0 s0 (pc) (lv) (.inl x :: r) (mm) := by
  intro H locs ls hl hR hS
  have hk : (k9 : Nat) < (zM_ y).2.2.1 := by rw [← hl.2.2.1]; exact hk
  refine lv_istore C0.1 C0.2.1 hd hl.has hk rfl (fun ls2 h2 => ?_)
  exact k H locs ls2 (hl.set hk h2) hR hS
theorem s_lstore_n (C0 : zCX p R s m args meth c y d g) {k9 : Fin 4} (hd : decode (zM_ y).2.1 pc = .ok (.lstore_n k9, 1)) {x : Int} (hk : k9 + 1 < lv.length)
    (k : zW p l e R s m args below meth c Q y g n0 s0 (pc + 1) (zset2 k9 (.inr (.inl x)) lv) (r) (mm)) : zW p l e R s m args below meth c Q y g n0 s0 (pc) (lv) (.inr (.inl x) :: r) (mm) := by
  intro H locs ls hl hR hS
  have hk : (k9 : Nat) + 1 < (zM_ y).2.2.1 := by rw [← hl.2.2.1]; exact hk
  refine lv_lstore_n C0.1 C0.2.1 hd rfl hl.has hk rfl (fun ls2 h2 => ?_)
  exact k H locs ls2 (hl.set2 hk h2) hR hS
theorem s_lstore (C0 : zCX p R s m args meth c y d g) {k9 : Nat} (hd : decode (zM_ y).2.1 pc = .ok (.lstore k9, 2)) {x : Int} (hk : k9 + 1 < lv.length)
    (k : zW p l e R s m args below meth c Q y g n0 s0 (pc + 2) (zset2 k9 (.inr (.inl x)) lv) (r) (mm)) : zW p l e R s m args below meth c Q y g n0 s0 (pc) (lv) (.inr (.inl x) :: r) (mm) := by
  intro H locs ls hl hR hS
  have hk : (k9 : Nat) + 1 < (zM_ y).2.2.1 := by rw [← hl.2.2.1]; exact hk
  refine lv_lstore C0.1 C0.2.1 hd hl.has hk rfl (fun ls2 h2 => ?_)
  exact k H locs ls2 (hl.set2 hk h2) hR hS
theorem s_astore_n (C0 : zCX p R s m args meth c y d g) {k9 : Fin 4} (hd : decode (zM_ y).2.1 pc = .ok (.astore_n k9, 1)) {x : Nat} (hk : k9 < lv.length)
    (k : zW p l e R s m args below meth c Q y g n0 s0 (pc + 1) (zset k9 (.inr (.inr (some x))) lv) (r) (mm)) : zW p l e R s m args below meth c Q y g n0 s0 (pc) (lv) (.inr (.inr (some x)) :: r) (mm) := by
  intro H locs ls hl hR hS
  have hk : (k9 : Nat) < (zM_ y).2.2.1 := by rw [← hl.2.2.1]; exact hk
  refine lv_astore_n C0.1 C0.2.1 hd rfl hl.has hk rfl (fun ls2 h2 => ?_)
  exact k H locs ls2 (hl.set hk h2) hR hS
theorem s_iinc (C0 : zCX p R s m args meth c y d g) {n : Int} {k9 : Nat} (hd : decode (zM_ y).2.1 pc = .ok (.iinc k9 n, 3)) {x : Int} (hv : zld lv k9 = some (.inl x)) (hk : k9 < lv.length)
    (k : zW p l e R s m args below meth c Q y g n0 s0 (pc + 3) (zset k9 (.inl (x + n)) lv) (r) (mm)) : zW p l e R s m args below meth c Q y g n0 s0 (pc) (lv) (r) (mm) := by
  intro H locs ls hl hR hS
  have hk : k9 < (zM_ y).2.2.1 := by rw [← hl.2.2.1]; exact hk
  have hm : (k9, Value.int (Int32.ofInt x)) ∈ zasc g lv := zasc_mem (v := .inl x) (by
    unfold zld at hv
    split at hv
    · rename_i w hw
      cases hv
      exact hw
    · cases hv)
  obtain ⟨j, hj⟩ := List.getElem?_of_mem hm
  have e9 : Int32.ofInt x + Int32.ofInt n = Int32.ofInt (x + n) := by first | exact (Int32.ofInt_add _ _).symm | simp
  refine lv_iinc C0.1 C0.2.1 hd hl.has hj e9 hk rfl (fun ls2 h2 => ?_)
  exact k H locs ls2 (hl.set (v := .inl (x + n)) hk h2) hR hS
end ZS
