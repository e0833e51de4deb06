/-! each instruction of the tables is what decode says, and its constant names what the table says, by the tables' words -/
abbrev zpA (p : zP) : Nat := p.2.2.1
abbrev zpB (p : zP) : Nat := p.2.2.2.1
abbrev zpK (p : zP) : Nat := p.2.2.2.2.1
abbrev zpZ (p : zP) : Int := p.2.2.2.2.2
def zCd : vw_C := ("", fun _ => ("", "", "", false), 0)
def zTd : MethodName × ByteArray × Nat × Option FieldType := (⟨"", "", ""⟩, ⟨#[]⟩, 0, none)
abbrev zF (c k : Nat) : String × String × String × Bool := ((zCl.getD c zCd).2.1) k
abbrev zM_ (y : Nat) : MethodName × ByteArray × Nat × Option FieldType := zT.getD y zTd
/-- the words of an instruction, but those of nest mates -/
def zLW (own : String) (p : zP) : List Cond := match p.1 with
  | .getfield ix => if zpK p = 1 then [] else [.fieldLink own ix (zF (zpA p) (zpB p)).1 (zF (zpA p) (zpB p)).2.1 (zF (zpA p) (zpB p)).2.2.1]
  | .putfield ix => if zpK p = 1 then [] else [.fieldLink own ix (zF (zpA p) (zpB p)).1 (zF (zpA p) (zpB p)).2.1 (zF (zpA p) (zpB p)).2.2.1]
  | .invokevirtual ix => [.methodLink own ix (zM_ (zpA p)).1, .instanceMethod (zM_ (zpA p)).1, .selects (zM_ (zpA p)).1.cls (zM_ (zpA p)).1 (zM_ (zpA p)).1, .initialized (zM_ (zpA p)).1.cls, .code (zM_ (zpA p)).1 (zM_ (zpA p)).2.1 (zM_ (zpA p)).2.2.1 (zM_ (zpA p)).2.2.2]
  | .invokestatic ix => if zpK p = 11 then [.methodLink own ix Lib.Math.abs.name, .static Lib.Math.abs.name, .initialized "java/lang/Math", .code Lib.Math.abs.name Lib.Math.abs.code 1 (some .int)]
    else if zpK p = 12 then [.methodLink own ix Lib.Math.min.name, .static Lib.Math.min.name, .initialized "java/lang/Math", .code Lib.Math.min.name Lib.Math.min.code 2 (some .int)]
    else if zpK p = 13 then [.methodLink own ix arraycopyName, .native arraycopyName, .static arraycopyName, .initialized "java/lang/System"]
    else (if zpK p = 3 then [] else [.methodLink own ix (zM_ (zpA p)).1]) ++ [.static (zM_ (zpA p)).1, .initialized (zM_ (zpA p)).1.cls, .code (zM_ (zpA p)).1 (zM_ (zpA p)).2.1 (zM_ (zpA p)).2.2.1 (zM_ (zpA p)).2.2.2]
  | .invokespecial ix => if zpK p = 10 then [.methodLink own ix objectInit, .instanceMethod objectInit, .code objectInit ⟨#[0xb1]⟩ 1 none]
    else (if zpK p = 4 then [] else [.methodLink own ix (zM_ (zpA p)).1]) ++ [.instanceMethod (zM_ (zpA p)).1, .initialized (zM_ (zpA p)).1.cls, .code (zM_ (zpA p)).1 (zM_ (zpA p)).2.1 (zM_ (zpA p)).2.2.1 (zM_ (zpA p)).2.2.2]
  | .new ix => [.classLink own ix (zCl.getD (zpA p) zCd).1, .instantiable (zCl.getD (zpA p) zCd).1 (zCl.getD (zpA p) zCd).2.2, .initialized (zCl.getD (zpA p) zCd).1]
  | .newarray t => [.arrayClass (newarray.typeOf t)]
  | .anewarray ix => [.classLink own ix "EdgeJoin$State"]
  | .multianewarray ix _ => [.classLink own ix "[[I", .arrayClass .int]
  | .ldc2_w ix => [.constantLong own ix (Int64.ofInt (zpZ p))]
  | .ldc ix => [.constant own ix (Int32.ofInt (zpZ p))]
  | .getstatic ix => if zpK p = 1 then [] else [.fieldLink own ix "EdgeJoin" "RIM" "[I"]
  | _ => []
/-- the words of nest mates -/
def zLN (own : String) (p : zP) : List Cond := match p.1 with
  | .getfield ix => if zpK p = 1 then [.fieldLinkNest own ix (zF (zpA p) (zpB p)).1 (zF (zpA p) (zpB p)).2.1 (zF (zpA p) (zpB p)).2.2.1 "EdgeJoin"] else []
  | .putfield ix => if zpK p = 1 then [.fieldLinkNest own ix (zF (zpA p) (zpB p)).1 (zF (zpA p) (zpB p)).2.1 (zF (zpA p) (zpB p)).2.2.1 "EdgeJoin"] else []
  | .getstatic ix => if zpK p = 1 then [.fieldLinkNest own ix "EdgeJoin" "RIM" "[I" "EdgeJoin"] else []
  | .invokestatic ix => if zpK p = 3 then [.methodLinkNest own ix (zM_ (zpA p)).1 "EdgeJoin"] else []
  | .invokespecial ix => if zpK p = 4 then [.methodLinkNest own ix (zM_ (zpA p)).1 "EdgeJoin"] else []
  | _ => []
/-- the numbers of an instruction -/
def zON (pc : Nat) (p : zP) : Bool := match p.1 with
  | .bipush n => decide ((Int8.ofInt n).toInt32 = Int32.ofInt n) && decide (p.2.1 = 2)
  | .sipush n => decide ((Int16.ofInt n).toInt32 = Int32.ofInt n) && decide (p.2.1 = 3)
  | .iload _ => decide (p.2.1 = 2)
  | .lload _ => decide (p.2.1 = 2)
  | .istore _ => decide (p.2.1 = 2)
  | .lstore _ => decide (p.2.1 = 2)
  | .iinc _ _ => decide (p.2.1 = 3)
  | .ldc _ => decide (p.2.1 = 2)
  | .ldc2_w _ => decide (p.2.1 = 3)
  | .ifCond _ o => decide ((pc : Int) + o = (zpA p : Int)) && decide (p.2.1 = 3)
  | .if_icmp _ o => decide ((pc : Int) + o = (zpA p : Int)) && decide (p.2.1 = 3)
  | .goto o => decide ((pc : Int) + o = (zpA p : Int)) && decide (p.2.1 = 3)
  | .getfield _ => decide (p.2.1 = 3) && decide (zpK p < 2)
  | .putfield _ => decide (p.2.1 = 3) && decide ((zpK p = 2 ∧ (zF (zpA p) (zpB p)).2.2.2 = true) ∨ (zpK p < 2 ∧ (zF (zpA p) (zpB p)).2.2.2 = false))
  | .getstatic _ => decide (p.2.1 = 3)
  | .invokevirtual _ => decide (p.2.1 = 3) && decide (zpK p = 0) && decide ((parseMethodDescriptor (zM_ (zpA p)).1.desc).map (fun d => d.parameters.length + 1) = some (zpB p))
  | .invokestatic _ => decide (p.2.1 = 3) && (decide (zpK p = 11) || decide (zpK p = 12) || decide (zpK p = 13) || (decide (zpK p = 1 ∨ zpK p = 3) && decide ((parseMethodDescriptor (zM_ (zpA p)).1.desc).map (fun d => d.parameters.length) = some (zpB p))))
  | .invokespecial _ => decide (p.2.1 = 3) && (decide (zpK p = 10) || (decide (zpK p = 2 ∨ zpK p = 4) && decide ((zM_ (zpA p)).1.name = "<init>") && decide ((zM_ (zpA p)).2.2.2 = none) && decide ((parseMethodDescriptor (zM_ (zpA p)).1.desc).map (fun d => d.parameters.length + 1) = some (zpB p))))
  | .new _ => decide (p.2.1 = 3)
  | .newarray t => decide (p.2.1 = 2) && (decide (newarray.typeOf t = .int) || decide (newarray.typeOf t = .byte) || decide (newarray.typeOf t = .boolean))
  | .anewarray _ => decide (p.2.1 = 3)
  | .multianewarray _ d => decide (p.2.1 = 4) && decide (d = 2)
  | .tableswitch d lo hi os => decide (0 ≤ (pc : Int) + d) && os.all (fun o => decide (0 ≤ (pc : Int) + o)) && decide (hi - lo + 1 = (os.size : Int))
  | .lookupswitch d ps => decide (0 ≤ (pc : Int) + d) && ps.all (fun o => decide (0 ≤ (pc : Int) + o.2)) && (ps.toList.zip (ps.toList.drop 1)).all (fun (a, next) => a.1 < next.1)
  | _ => decide (p.2.1 = 1)
def zGood : List Cond := lw_tbl.filter goodWord
def zNest : List Cond := lw_tbl.filter (fun w => match w with | .methodLinkNest _ _ _ _ => true | .fieldLinkNest _ _ _ _ _ _ => true | _ => false)
def zchk (y : Nat) : Bool := (zC y).all (fun q => decide (decode (zM_ y).2.1 q.1 = .ok (q.2.1, q.2.2.1)) && zON q.1 q.2 && (zLW (zM_ y).1.cls q.2).all (fun w => decide (w ∈ lw_tbl) && goodWord w) && (zLN (zM_ y).1.cls q.2).all (fun w => decide (w ∈ zNest)))
set_option maxRecDepth 100000 in
theorem zchk_0 : ∀ y, y < 20 → zchk y = true := by decide +kernel
