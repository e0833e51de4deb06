/-! THE PURE MACHINE: values are whole numbers (the machine's ints and longs are their remainders) and cells by number; a run by fuel -/
abbrev zV : Type := Int ⊕ (Int ⊕ Option Nat)
abbrev zLv : Type := List (Option zV)
abbrev zMem : Type := List (Nat × Nat) × List (List (Option Nat)) × (Nat → Nat → Int)
def n32 (x : Int) : Int := (Int32.ofInt x).toInt
def n64 (x : Int) : Int := (Int64.ofInt x).toInt
abbrev vI (x : Int) : zV := .inl x
abbrev vL (x : Int) : zV := .inr (.inl x)
abbrev vR (a : Nat) : zV := .inr (.inr (some a))
abbrev vO (a : Option Nat) : zV := .inr (.inr a)
def zcat : zV → Nat
  | .inr (.inl _) => 2
  | _ => 1
def zcats (l : List zV) : Nat := (l.map zcat).sum
def zclr : Nat → zLv → zLv
  | 0, lv => lv
  | j + 1, lv => match lv[j]? with
    | some (some (.inr (.inl _))) => lv.set j none
    | _ => lv
def zset (i : Nat) (v : zV) (lv : zLv) : zLv := (zclr i lv).set i (some v)
def zset2 (i : Nat) (v : zV) (lv : zLv) : zLv := ((zclr i lv).set i (some v)).set (i + 1) none
def zshl (x y : Int) : Int := (Int32.ofInt x <<< (Int32.ofInt y &&& 31)).toInt
def zshr (x y : Int) : Int := (Int32.ofInt x >>> (Int32.ofInt y &&& 31)).toInt
def zand (x y : Int) : Int := (Int32.ofInt x &&& Int32.ofInt y).toInt
def zor (x y : Int) : Int := (Int32.ofInt x ||| Int32.ofInt y).toInt
def zdiv (x y : Int) : Int := (Int32.ofInt x / Int32.ofInt y).toInt
def zrem (x y : Int) : Int := (Int32.ofInt x - Int32.ofInt x / Int32.ofInt y * Int32.ofInt y).toInt
def zldiv (x y : Int) : Int := (Int64.ofInt x / Int64.ofInt y).toInt
def zlrem (x y : Int) : Int := (Int64.ofInt x - Int64.ofInt x / Int64.ofInt y * Int64.ofInt y).toInt
def zlcmp (x y : Int) : Int := if n64 y < n64 x then 1 else if n64 x = n64 y then 0 else -1
def zabs (x : Int) : Int := (if 0 ≤ Int32.ofInt x then Int32.ofInt x else 0 - Int32.ofInt x).toInt
def zmin (x y : Int) : Int := if n32 y < n32 x then y else x
def zi2b (x : Int) : Int := (Int32.ofInt x).toInt8.toInt32.toInt
def zl2i (x : Int) : Int := (Int64.ofInt x).toInt32.toInt
def zcmp (c : ClassFile.Cond) (x y : Int) : Bool := match c with
  | .eq => decide (x = y)
  | .ne => decide (¬ x = y)
  | .lt => decide (x < y)
  | .ge => decide (y ≤ x)
  | .gt => decide (y < x)
  | .le => decide (x ≤ y)
/-- f, but x at k -/
def zup {α : Type} (f : Nat → α) (k : Nat) (x : α) : Nat → α := fun j => if j = k then x else f j
def zup2 (f : Nat → Nat → Int) (a k : Nat) (x : Int) : Nat → Nat → Int := fun b => if b = a then zup (f a) k x else f b
def zld (lv : zLv) (i : Nat) : Option zV := match lv[i]? with
  | some (some v) => some v
  | _ => none
/-- loads and stores -/
def zlx (ins : Instr) (lv : zLv) (st : List zV) : Option (zLv × List zV) := match ins with
  | .iload_n k => match zld lv k with
    | some (.inl x) => some (lv, .inl x :: st)
    | _ => none
  | .iload k => match zld lv k with
    | some (.inl x) => some (lv, .inl x :: st)
    | _ => none
  | .lload_n k => match zld lv k with
    | some (.inr (.inl x)) => some (lv, .inr (.inl x) :: st)
    | _ => none
  | .lload k => match zld lv k with
    | some (.inr (.inl x)) => some (lv, .inr (.inl x) :: st)
    | _ => none
  | .aload_n k => match zld lv k with
    | some (.inr (.inr (some a))) => some (lv, .inr (.inr (some a)) :: st)
    | _ => none
  | .istore_n k => match st with
    | .inl x :: r => if k < lv.length then some (zset k (.inl x) lv, r) else none
    | _ => none
  | .istore k => match st with
    | .inl x :: r => if k < lv.length then some (zset k (.inl x) lv, r) else none
    | _ => none
  | .lstore_n k => match st with
    | .inr (.inl x) :: r => if k + 1 < lv.length then some (zset2 k (.inr (.inl x)) lv, r) else none
    | _ => none
  | .lstore k => match st with
    | .inr (.inl x) :: r => if k + 1 < lv.length then some (zset2 k (.inr (.inl x)) lv, r) else none
    | _ => none
  | .astore_n k => match st with
    | .inr (.inr (some a)) :: r => if k < lv.length then some (zset k (.inr (.inr (some a))) lv, r) else none
    | _ => none
  | .iinc k n => match zld lv k with
    | some (.inl x) => if k < lv.length then some (zset k (.inl (x + n)) lv, st) else none
    | _ => none
  | _ => none
def zln (m : zMem) : Nat := m.1.length
def zsl (m : zMem) : Nat := (m.1.map (fun q => q.2)).sum
def znew (m : zMem) (sh : Nat × Nat) (rs : List (Option Nat)) : zMem := (m.1 ++ [sh], m.2.1 ++ [rs], fun a => if a = m.1.length then fun _ => 0 else m.2.2 a)
def zrows (k : Nat) : Nat → zMem → zMem
  | 0, m => m
  | n + 1, m => zrows k n (znew m (100, k) [])
/-- all else but calls and ends: where it goes (none: the next), the stack, the cells -/
noncomputable def zpx (d pc : Nat) (p : zP) (st : List zV) (m : zMem) : Option (Option Nat × List zV × zMem) := match p.1 with
  | .iconst n => some (none, .inl n :: st, m)
  | .bipush n => some (none, .inl n :: st, m)
  | .sipush n => some (none, .inl n :: st, m)
  | .lconst n => some (none, .inr (.inl ((n : Nat) : Int)) :: st, m)
  | .ldc _ => some (none, .inl (zpZ p) :: st, m)
  | .ldc2_w _ => some (none, .inr (.inl (zpZ p)) :: st, m)
  | .iadd => match st with
    | .inl y :: .inl x :: r => some (none, .inl (x + y) :: r, m)
    | _ => none
  | .isub => match st with
    | .inl y :: .inl x :: r => some (none, .inl (x - y) :: r, m)
    | _ => none
  | .imul => match zpK p, st with
    | 1, .inl y :: .inl x :: r => some (none, .inl (n32 (x * y)) :: r, m)
    | _, .inl y :: .inl x :: r => some (none, .inl (x * y) :: r, m)
    | _, _ => none
  | .ineg => match st with
    | .inl x :: r => some (none, .inl (-x) :: r, m)
    | _ => none
  | .idiv => match st with
    | .inl y :: .inl x :: r => if n32 y = 0 then none else some (none, .inl (zdiv x y) :: r, m)
    | _ => none
  | .irem => match st with
    | .inl y :: .inl x :: r => if n32 y = 0 then none else some (none, .inl (zrem x y) :: r, m)
    | _ => none
  | .ishl => match st with
    | .inl y :: .inl x :: r => some (none, .inl (zshl x y) :: r, m)
    | _ => none
  | .ishr => match st with
    | .inl y :: .inl x :: r => some (none, .inl (zshr x y) :: r, m)
    | _ => none
  | .iand => match st with
    | .inl y :: .inl x :: r => some (none, .inl (zand x y) :: r, m)
    | _ => none
  | .ior => match st with
    | .inl y :: .inl x :: r => some (none, .inl (zor x y) :: r, m)
    | _ => none
  | .ladd => match st with
    | .inr (.inl y) :: .inr (.inl x) :: r => some (none, .inr (.inl (x + y)) :: r, m)
    | _ => none
  | .lmul => match st with
    | .inr (.inl y) :: .inr (.inl x) :: r => some (none, .inr (.inl (x * y)) :: r, m)
    | _ => none
  | .ldiv => match st with
    | .inr (.inl y) :: .inr (.inl x) :: r => if n64 y = 0 then none else some (none, .inr (.inl (zldiv x y)) :: r, m)
    | _ => none
  | .lrem => match st with
    | .inr (.inl y) :: .inr (.inl x) :: r => if n64 y = 0 then none else some (none, .inr (.inl (zlrem x y)) :: r, m)
    | _ => none
  | .lcmp => match st with
    | .inr (.inl y) :: .inr (.inl x) :: r => some (none, .inl (zlcmp x y) :: r, m)
    | _ => none
  | .i2l => match st with
    | .inl x :: r => some (none, .inr (.inl (n32 x)) :: r, m)
    | _ => none
  | .l2i => match st with
    | .inr (.inl x) :: r => some (none, .inl (zl2i x) :: r, m)
    | _ => none
  | .i2b => match st with
    | .inl x :: r => some (none, .inl (zi2b x) :: r, m)
    | _ => none
  | .dup => match st with
    | .inl x :: r => some (none, .inl x :: .inl x :: r, m)
    | .inr (.inr x) :: r => some (none, .inr (.inr x) :: .inr (.inr x) :: r, m)
    | _ => none
  | .dup2 => match st with
    | .inl x :: .inl y :: r => some (none, .inl x :: .inl y :: .inl x :: .inl y :: r, m)
    | .inl x :: .inr (.inr y) :: r => some (none, .inl x :: .inr (.inr y) :: .inl x :: .inr (.inr y) :: r, m)
    | _ => none
  | .goto _ => some (some (zpA p), st, m)
  | .ifCond c _ => match st with
    | .inl x :: r => some (if zcmp c (n32 x) 0 then some (zpA p) else none, r, m)
    | _ => none
  | .if_icmp c _ => match st with
    | .inl y :: .inl x :: r => some (if zcmp c (n32 x) (n32 y) then some (zpA p) else none, r, m)
    | _ => none
  | .tableswitch df lo hi os => match st with
    | .inl x :: r => if n32 x < lo ∨ hi < n32 x then some (some ((pc : Int) + df).toNat, r, m) else match os[(n32 x - lo).toNat]? with
      | some o => some (some ((pc : Int) + o).toNat, r, m)
      | none => none
    | _ => none
  | .lookupswitch df ps => match st with
    | .inl x :: r => some (some ((pc : Int) + Op.lookupswitch.offset ps.toList df (n32 x)).toNat, r, m)
    | _ => none
  | .getfield _ => match st with
    | .inr (.inr (some a)) :: r => match m.1[a]? with
      | some (c, n) => if c = zpA p ∧ c < 8 ∧ 2 ≤ a ∧ zpB p < n then some (none, (match zty c (zpB p) with
          | 3 => .inr (.inr ((m.2.1.getD a []).getD (zpB p) none))
          | 2 => .inr (.inl (m.2.2 a (zpB p)))
          | _ => .inl (m.2.2 a (zpB p))) :: r, m) else none
      | none => none
    | _ => none
  | .putfield _ => match st with
    | v :: .inr (.inr (some a)) :: r => match m.1[a]? with
      | some (c, n) => if c = zpA p ∧ c < 8 ∧ 2 ≤ a ∧ zpB p < n then (match zty c (zpB p), v with
          | 0, .inl x => some (none, r, m.1, m.2.1, zup2 m.2.2 a (zpB p) x)
          | 1, .inl x => if n32 x = 0 ∨ n32 x = 1 then some (none, r, m.1, m.2.1, zup2 m.2.2 a (zpB p) x) else none
          | 2, .inr (.inl x) => some (none, r, m.1, m.2.1, zup2 m.2.2 a (zpB p) x)
          | 3, .inr (.inr (some b)) => if zpB p < (m.2.1.getD a []).length then some (none, r, m.1, m.2.1.set a ((m.2.1.getD a []).set (zpB p) (some b)), m.2.2) else none
          | _, _ => none) else none
      | none => none
    | _ => none
  | .getstatic _ => some (none, .inr (.inr (some 0)) :: st, m)
  | .iaload => match st with
    | .inl i :: .inr (.inr (some a)) :: r => match m.1[a]? with
      | some (c, n) => if c = 100 ∧ 0 ≤ n32 i ∧ n32 i < n then some (none, .inl (m.2.2 a (n32 i).toNat) :: r, m) else none
      | none => none
    | _ => none
  | .baload => match st with
    | .inl i :: .inr (.inr (some a)) :: r => match m.1[a]? with
      | some (c, n) => if (c = 101 ∨ c = 102) ∧ 2 ≤ a ∧ 0 ≤ n32 i ∧ n32 i < n then some (none, .inl (m.2.2 a (n32 i).toNat) :: r, m) else none
      | none => none
    | _ => none
  | .aaload => match st with
    | .inl i :: .inr (.inr (some a)) :: r => match m.1[a]? with
      | some (c, n) => if (c = 103 ∨ c = 104) ∧ 2 ≤ a ∧ 0 ≤ n32 i ∧ n32 i < n then some (none, .inr (.inr ((m.2.1.getD a []).getD (n32 i).toNat none)) :: r, m) else none
      | none => none
    | _ => none
  | .iastore => match st with
    | .inl x :: .inl i :: .inr (.inr (some a)) :: r => match m.1[a]? with
      | some (c, n) => if c = 100 ∧ 2 ≤ a ∧ 0 ≤ n32 i ∧ n32 i < n then some (none, r, m.1, m.2.1, zup2 m.2.2 a (n32 i).toNat x) else none
      | none => none
    | _ => none
  | .bastore => match st with
    | .inl x :: .inl i :: .inr (.inr (some a)) :: r => match m.1[a]? with
      | some (c, n) => if (c = 101 ∧ -128 ≤ n32 x ∧ n32 x < 128 ∨ c = 102 ∧ (n32 x = 0 ∨ n32 x = 1)) ∧ 2 ≤ a ∧ 0 ≤ n32 i ∧ n32 i < n then some (none, r, m.1, m.2.1, zup2 m.2.2 a (n32 i).toNat x) else none
      | none => none
    | _ => none
  | .aastore => match st with
    | .inr (.inr (some b)) :: .inl i :: .inr (.inr (some a)) :: r => match m.1[a]?, m.1[b]? with
      | some (c, n), some (cb, _) => if c = 104 ∧ cb = 5 ∧ 2 ≤ a ∧ 2 ≤ b ∧ 0 ≤ n32 i ∧ n32 i < n ∧ (n32 i).toNat < (m.2.1.getD a []).length then some (none, r, m.1, m.2.1.set a ((m.2.1.getD a []).set (n32 i).toNat (some b)), m.2.2) else none
      | _, _ => none
    | _ => none
  | .arraylength => match st with
    | .inr (.inr (some a)) :: r => match m.1[a]? with
      | some (c, n) => if c = 100 then some (none, .inl (n : Int) :: r, m) else none
      | none => none
    | _ => none
  | .new _ => if zpA p < 8 then some (none, .inr (.inr (some m.1.length)) :: st, znew m (zpA p, (zCl.getD (zpA p) zCd).2.2) (List.replicate (zCl.getD (zpA p) zCd).2.2 none)) else none
  | .newarray t => match st with
    | .inl n :: r => if 0 ≤ n32 n ∧ n32 n ≤ 1000 then (match newarray.typeOf t with
      | .int => some (none, .inr (.inr (some m.1.length)) :: r, znew m (100, (n32 n).toNat) [])
      | .byte => some (none, .inr (.inr (some m.1.length)) :: r, znew m (101, (n32 n).toNat) [])
      | .boolean => some (none, .inr (.inr (some m.1.length)) :: r, znew m (102, (n32 n).toNat) [])
      | _ => none) else none
    | _ => none
  | .anewarray _ => match st with
    | .inl n :: r => if 0 ≤ n32 n ∧ n32 n ≤ 1000 then some (none, .inr (.inr (some m.1.length)) :: r, znew m (104, (n32 n).toNat) (List.replicate (n32 n).toNat none)) else none
    | _ => none
  | .multianewarray _ _ => match st with
    | .inl k :: .inl n :: r => if 0 ≤ n32 n ∧ n32 n ≤ 1000 ∧ 0 ≤ n32 k ∧ n32 k ≤ 1000 then some (none, .inr (.inr (some m.1.length)) :: r, zrows (n32 k).toNat (n32 n).toNat (znew m (103, (n32 n).toNat) ((List.range (n32 n).toNat).map (fun i => some (m.1.length + 1 + i))))) else none
    | _ => none
  | .invokespecial _ => match st with
    | .inr (.inr (some _)) :: r => if zpK p = 10 ∧ 1 ≤ d ∧ zcats r ≤ 8 then some (none, r, m) else none
    | _ => none
  | .invokestatic _ => if zcats st ≤ 8 ∧ 1 ≤ d then (match zpK p, st with
    | 11, .inl x :: r => some (none, .inl (zabs x) :: r, m)
    | 12, .inl y :: .inl x :: r => some (none, .inl (zmin x y) :: r, m)
    | 13, .inl n :: .inl dp :: .inr (.inr (some b)) :: .inl sp :: .inr (.inr (some a)) :: r => match m.1[a]?, m.1[b]? with
      | some (ca, na), some (cb, nb) => if ca = 100 ∧ cb = 100 ∧ 2 ≤ a ∧ 2 ≤ b ∧ 0 ≤ n32 sp ∧ 0 ≤ n32 dp ∧ 0 ≤ n32 n ∧ n32 sp + n32 n ≤ na ∧ n32 dp + n32 n ≤ nb then
          some (none, r, m.1, m.2.1, fun q => if q = b then va_cpy (m.2.2 a) (m.2.2 b) (n32 sp).toNat (n32 dp).toNat (n32 n).toNat else m.2.2 q) else none
      | _, _ => none
    | _, _ => none) else none
  | _ => none
def zfn (pc : Nat) : List (Nat × zP) → Option zP
  | [] => none
  | q :: r => bif Nat.beq q.1 pc then some q.2 else zfn pc r
/-- the locals at a method's start -/
def zargs : List zV → zLv
  | [] => []
  | .inr (.inl x) :: r => some (.inr (.inl x)) :: none :: zargs r
  | v :: r => some v :: zargs r
def zent (vs : List zV) (n : Nat) : zLv := zargs vs ++ List.replicate (n - (zargs vs).length) none
/-- a call of a method of ours -/
def zicall (p : zP) : Bool := match p.1 with
  | .invokevirtual _ => true
  | .invokestatic _ => decide (zpK p = 1 ∨ zpK p = 3)
  | .invokespecial _ => decide (zpK p = 2 ∨ zpK p = 4)
  | _ => false
/-- an end: what it answers -/
noncomputable def zret (y : Nat) (i : Instr) (st : List zV) : Option (Option zV) := match i with
  | .return_ => match (zM_ y).2.2.2, st with
    | none, [] => some none
    | _, _ => none
  | .ireturn => match (zM_ y).2.2.2, st with
    | some .int, [.inl x] => some (some (.inl x))
    | some .boolean, [.inl x] => if n32 x = 0 ∨ n32 x = 1 then some (some (.inl x)) else none
    | _, _ => none
  | .lreturn => match (zM_ y).2.2.2, st with
    | some .long, [.inr (.inl x)] => some (some (.inr (.inl x)))
    | _, _ => none
  | .areturn => match (zM_ y).2.2.2, st with
    | some (.object _), [.inr (.inr (some a))] => some (some (.inr (.inr (some a))))
    | _, _ => none
  | _ => none
def zend (i : Instr) : Bool := match i with
  | .return_ => true
  | .ireturn => true
  | .lreturn => true
  | .areturn => true
  | _ => false
/-- the receiver of a call by class: a cell of that class -/
noncomputable def zrcv (p : zP) (m : zMem) (as : List zV) : Bool := match p.1 with
  | .invokevirtual _ => match as with
    | .inr (.inr (some a)) :: _ => match m.1[a]? with
      | some (c, _) => decide (c < 8 ∧ 2 ≤ a ∧ (zCl.getD c zCd).1 = (zM_ (zpA p)).1.cls)
      | none => false
    | _ => false
  | .invokespecial _ => match as with
    | .inr (.inr (some _)) :: _ => true
    | _ => false
  | _ => true
noncomputable def zx : Nat → Nat → Nat → Nat → zLv → List zV → zMem → Option (Option zV × zMem)
  | 0, _, _, _, _, _, _ => none
  | n + 1, d, y, pc, lv, st, m => match zfn pc (zC y) with
    | none => none
    | some p => bif zend p.1 then (match zret y p.1 st with
        | some v => some (v, m)
        | none => none)
      else bif zicall p then (match d with
        | 0 => none
        | e + 1 => if zpB p ≤ st.length ∧ zcats (st.drop (zpB p)) ≤ 8 ∧ zpA p < 95 ∧ (zargs (st.take (zpB p)).reverse).length ≤ (zM_ (zpA p)).2.2.1 ∧ (zM_ (zpA p)).2.2.1 ≤ 21 ∧ zrcv p m (st.take (zpB p)).reverse = true then
            match zx n e (zpA p) 0 (zent (st.take (zpB p)).reverse (zM_ (zpA p)).2.2.1) [] m with
            | some (v, m') => zx n (e + 1) y (pc + p.2.1) lv (v.toList ++ st.drop (zpB p)) m'
            | none => none
          else none)
      else match zlx p.1 lv st with
        | some (lv', st') => zx n d y (pc + p.2.1) lv' st' m
        | none => match zpx d pc p st m with
          | some (none, st', m') => zx n d y (pc + p.2.1) lv st' m'
          | some (some t, st', m') => zx n d y t lv st' m'
          | none => none
