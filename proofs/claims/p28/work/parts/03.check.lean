/-! each instruction of the tables is what decode says, and its constant names what the table says, by the tables' words -/
abbrev zpA (p : zP) : Nat := p.2.2.1
abbrev zpB (p : zP) : Nat := p.2.2.2.1
abbrev zpK (p : zP) : Nat := p.2.2.2.2.1
abbrev zpZ (p : zP) : Int := p.2.2.2.2.2
def zCd : vw_C := ("", fun _ => ("", "", "", false), 0)
noncomputable def zTd : MethodName × ByteArray × Nat × Option FieldType := (⟨"", "", ""⟩, ⟨#[]⟩, 0, none)
abbrev zF (c k : Nat) : String × String × String × Bool := ((zCl.getD c zCd).2.1) k
noncomputable abbrev zM_ (y : Nat) : MethodName × ByteArray × Nat × Option FieldType := zT.getD y zTd
/-- the words of an instruction, but those of nest mates -/
noncomputable def zLW (own : String) (p : zP) : List Cond := match p.1 with
  | .getfield ix => if zpK p = 1 then [] else [.fieldLink own ix (zF (zpA p) (zpB p)).1 (zF (zpA p) (zpB p)).2.1 (zF (zpA p) (zpB p)).2.2.1]
  | .putfield ix => if zpK p = 1 then [] else [.fieldLink own ix (zF (zpA p) (zpB p)).1 (zF (zpA p) (zpB p)).2.1 (zF (zpA p) (zpB p)).2.2.1]
  | .invokevirtual ix => [.methodLink own ix (zM_ (zpA p)).1, .instanceMethod (zM_ (zpA p)).1, .selects (zM_ (zpA p)).1.cls (zM_ (zpA p)).1 (zM_ (zpA p)).1, .initialized (zM_ (zpA p)).1.cls, .code (zM_ (zpA p)).1 (zM_ (zpA p)).2.1 (zM_ (zpA p)).2.2.1 (zM_ (zpA p)).2.2.2]
  | .invokestatic ix => if zpK p = 11 then [.methodLink own ix Lib.Math.abs.name, .static Lib.Math.abs.name, .initialized "java/lang/Math", .code Lib.Math.abs.name Lib.Math.abs.code 1 (some .int)]
    else if zpK p = 12 then [.methodLink own ix Lib.Math.min.name, .static Lib.Math.min.name, .initialized "java/lang/Math", .code Lib.Math.min.name Lib.Math.min.code 2 (some .int)]
    else if zpK p = 13 then [.methodLink own ix arraycopyName, .native arraycopyName, .static arraycopyName, .initialized "java/lang/System"]
    else (if zpK p = 3 then [] else [.methodLink own ix (zM_ (zpA p)).1]) ++ [.static (zM_ (zpA p)).1, .initialized (zM_ (zpA p)).1.cls, .code (zM_ (zpA p)).1 (zM_ (zpA p)).2.1 (zM_ (zpA p)).2.2.1 (zM_ (zpA p)).2.2.2]
  | .invokespecial ix => if zpK p = 10 then [.methodLink own ix objectInit, .instanceMethod objectInit, .code objectInit ⟨#[0xb1]⟩ 1 none]
    else (if zpK p = 4 then [] else [.methodLink own ix (zM_ (zpA p)).1]) ++ [.instanceMethod (zM_ (zpA p)).1, .initialized (zM_ (zpA p)).1.cls, .code (zM_ (zpA p)).1 (zM_ (zpA p)).2.1 (zM_ (zpA p)).2.2.1 (zM_ (zpA p)).2.2.2]
  | .new ix => [.classLink own ix (zCl.getD (zpA p) zCd).1, .instantiable (zCl.getD (zpA p) zCd).1 (zCl.getD (zpA p) zCd).2.2, .initialized (zCl.getD (zpA p) zCd).1]
  | .newarray t => [.arrayClass (newarray.typeOf t)]
  | .anewarray ix => [.classLink own ix "EdgeJoin$State"]
  | .multianewarray ix _ => [.classLink own ix "[[I", .arrayClass .int]
  | .ldc2_w ix => [.constantLong own ix (Int64.ofInt (zpZ p))]
  | .ldc ix => [.constant own ix (Int32.ofInt (zpZ p))]
  | .getstatic ix => if zpK p = 1 then [] else [.fieldLink own ix "EdgeJoin" "RIM" "[I"]
  | _ => []
/-- the words of nest mates -/
noncomputable def zLN (own : String) (p : zP) : List Cond := match p.1 with
  | .getfield ix => if zpK p = 1 then [.fieldLinkNest own ix (zF (zpA p) (zpB p)).1 (zF (zpA p) (zpB p)).2.1 (zF (zpA p) (zpB p)).2.2.1 "EdgeJoin"] else []
  | .putfield ix => if zpK p = 1 then [.fieldLinkNest own ix (zF (zpA p) (zpB p)).1 (zF (zpA p) (zpB p)).2.1 (zF (zpA p) (zpB p)).2.2.1 "EdgeJoin"] else []
  | .getstatic ix => if zpK p = 1 then [.fieldLinkNest own ix "EdgeJoin" "RIM" "[I" "EdgeJoin"] else []
  | .invokestatic ix => if zpK p = 3 then [.methodLinkNest own ix (zM_ (zpA p)).1 "EdgeJoin"] else []
  | .invokespecial ix => if zpK p = 4 then [.methodLinkNest own ix (zM_ (zpA p)).1 "EdgeJoin"] else []
  | _ => []
/-- the numbers of an instruction -/
noncomputable def zON (y pc : Nat) (p : zP) : Bool := match p.1 with
  | .bipush n => decide ((Int8.ofInt n).toInt32 = Int32.ofInt n) && decide (p.2.1 = 2)
  | .sipush n => decide ((Int16.ofInt n).toInt32 = Int32.ofInt n) && decide (p.2.1 = 3)
  | .iload _ => decide (p.2.1 = 2)
  | .lload _ => decide (p.2.1 = 2)
  | .istore _ => decide (p.2.1 = 2)
  | .lstore _ => decide (p.2.1 = 2)
  | .iinc _ _ => decide (p.2.1 = 3)
  | .ldc _ => decide (p.2.1 = 2)
  | .ldc2_w _ => decide (p.2.1 = 3)
  | .ifCond _ o => decide ((pc : Int) + o = (zpA p : Int)) && decide (p.2.1 = 3)
  | .if_icmp _ o => decide ((pc : Int) + o = (zpA p : Int)) && decide (p.2.1 = 3)
  | .goto o => decide ((pc : Int) + o = (zpA p : Int)) && decide (p.2.1 = 3)
  | .getfield _ => decide (p.2.1 = 3) && decide (zpK p < 2) && decide (zpB p < (zCl.getD (zpA p) zCd).2.2)
  | .putfield _ => decide (p.2.1 = 3) && decide ((zpK p = 2 ∧ (zF (zpA p) (zpB p)).2.2.2 = true ∧ (zM_ y).1.name = "<init>" ∧ (zM_ y).1.cls = (zCl.getD (zpA p) zCd).1) ∨ (zpK p < 2 ∧ (zF (zpA p) (zpB p)).2.2.2 = false)) && decide (zpB p < (zCl.getD (zpA p) zCd).2.2)
  | .getstatic _ => decide (p.2.1 = 3)
  | .invokevirtual _ => decide (p.2.1 = 3) && decide (zpK p = 0) && decide ((parseMethodDescriptor (zM_ (zpA p)).1.desc).map (fun d => d.parameters.length + 1) = some (zpB p))
  | .invokestatic _ => decide (p.2.1 = 3) && (decide (zpK p = 11) || decide (zpK p = 12) || decide (zpK p = 13) || (decide (zpK p = 1 ∨ zpK p = 3) && decide ((parseMethodDescriptor (zM_ (zpA p)).1.desc).map (fun d => d.parameters.length) = some (zpB p))))
  | .invokespecial _ => decide (p.2.1 = 3) && (decide (zpK p = 10) || (decide (zpK p = 2 ∨ zpK p = 4) && decide ((zM_ (zpA p)).1.name = "<init>") && decide ((zM_ (zpA p)).2.2.2 = none) && decide ((parseMethodDescriptor (zM_ (zpA p)).1.desc).map (fun d => d.parameters.length + 1) = some (zpB p))))
  | .new _ => decide (p.2.1 = 3)
  | .newarray t => decide (p.2.1 = 2) && (decide (newarray.typeOf t = .int) || decide (newarray.typeOf t = .byte) || decide (newarray.typeOf t = .boolean))
  | .anewarray _ => decide (p.2.1 = 3)
  | .multianewarray _ d => decide (p.2.1 = 4) && decide (d = 2)
  | .tableswitch d lo hi os => decide (0 ≤ (pc : Int) + d) && os.all (fun o => decide (0 ≤ (pc : Int) + o)) && decide (hi - lo + 1 = (os.size : Int))
  | .lookupswitch d ps => decide (0 ≤ (pc : Int) + d) && ps.all (fun o => decide (0 ≤ (pc : Int) + o.2)) && (ps.toList.zip (ps.toList.drop 1)).all (fun (a, next) => a.1 < next.1)
  | _ => decide (p.2.1 = 1)
def zGood : List Cond := lw_tbl.filter goodWord
def zNest : List Cond := lw_tbl.filter (fun w => match w with | .methodLinkNest _ _ _ _ => true | .fieldLinkNest _ _ _ _ _ _ => true | _ => false)
/-! the places of the words, by 25 instructions -/
noncomputable def zPos : List (List (List Nat)) := [[[146, 38, 39, 149, 150, 170, 151, 147, 47, 24, 148, 49, 24, 50, 152, 147, 47, 24, 148, 49, 24, 50, 153, 155], []],
  [[149, 150, 151, 152], [474, 348, 349, 24, 350, 155, 475, 476, 27, 477, 155]],
  [[152, 478, 293, 294, 24, 295, 155, 153, 152, 479, 255, 256, 24, 257, 152, 478, 293, 294, 24, 295], [149, 151, 152, 480, 481, 482, 26, 483], [155, 150, 495, 497, 18, 27, 498, 151, 152, 61], [475, 476, 27, 477, 152, 61, 151]],
  [[152, 499, 485, 486, 24, 487, 493, 22, 494, 501, 394, 395, 26, 396], []],
  [[96, 38, 39, 97, 100, 101, 102, 100, 97, 41, 23, 43, 23, 44], []],
  [[100, 101, 102, 275, 248, 249, 23, 250, 102, 102, 102], [101, 101]],
  [[102, 102, 102, 100, 101, 102, 275, 248, 249, 23, 250]],
  [[176, 38, 39, 177, 72, 178]],
  [[304, 306, 22, 307, 312, 22, 313, 177], [314, 316, 3, 28, 317, 75, 75, 79], [326, 328, 5, 28, 329, 330, 332, 6, 28, 333, 334, 336, 7, 28, 337, 82], [347, 348, 349, 24, 350, 75]],
  [[322, 177, 323, 324, 177, 177, 325]],
  [[], [178, 318, 320, 4, 28, 321], []],
  [[178], []],
  [[75, 318, 320, 4, 28, 321, 79, 79, 79], [79]],
  [[75, 79, 79, 318, 320, 4, 28, 321, 339, 22, 340]],
  [[51, 38, 39, 56, 58, 72, 60, 52, 54, 0, 24, 55]],
  [[60]],
  [[56, 58, 52, 54, 0, 24, 55]],
  [[56, 56, 58, 58, 60, 60, 258, 253, 252, 30]],
  [[56, 58]],
  [[292, 293, 294, 24, 295]],
  [[56, 56, 56, 292, 293, 294, 24, 295], [56, 56, 56, 56], []],
  [[292, 293, 294, 24, 295, 60, 60], []],
  [[429, 422, 423, 24, 424, 60]],
  [[292, 293, 294, 24, 295, 60]],
  [[60, 552, 485, 486, 24, 487, 60], [553, 512, 513, 24, 514]],
  [[292, 293, 294, 24, 295, 60, 60, 60], [60, 60, 60], []],
  [[116, 38, 39, 119, 72, 120, 72, 121, 117, 72, 123, 72, 125, 72], [126]],
  [[367, 369, 9, 26, 370, 74, 119, 78, 120, 371, 253, 252, 30, 372, 374, 10, 26, 375, 379, 381, 11, 26, 382], [119, 125, 389, 391, 12, 26, 392, 397, 399, 13, 26, 400]],
  [[119, 74, 119, 120, 78], []],
  [[119, 120], [345, 22, 346, 121]],
  [[119, 121, 121, 383, 384, 26, 385, 123], [123]],
  [[345, 22, 346, 345, 22, 346, 386, 387, 31, 388]],
  [[119, 393, 394, 395, 26, 396], [393, 394, 395, 26, 396, 123, 123], []],
  [[119, 126, 119, 401, 403, 14, 26, 404], [126, 126, 125, 405, 407, 15, 26, 408]],
  [[119, 126, 126, 126, 409, 410, 31, 411], []],
  [[121]],
  [[393, 394, 395, 26, 396]],
  [[416, 417, 418, 26, 419], []],
  [[125, 125]],
  [[119, 401, 403, 14, 26, 404]],
  [[119, 401, 403, 14, 26, 404, 125], []],
  [[119, 126]],
  [[119, 459, 461, 16, 26, 462]],
  [[121, 463, 464, 26, 465, 121, 121], []],
  [[345, 22, 346]],
  [[123, 493, 22, 494, 493, 22, 494]],
  [[484, 485, 486, 24, 487, 64], [64, 488, 490, 17, 26, 491]],
  [[541, 293, 294, 24, 295, 64, 64, 542, 481, 482, 26, 483], []],
  [[45, 38, 39, 73, 72, 77, 46, 47, 24, 48, 49, 24, 50, 81]],
  [[73, 73, 77, 77, 251, 253, 252, 30, 81, 81, 254, 255, 256, 24, 257]],
  [[73]],
  [[73, 77, 73, 73, 73, 73]],
  [[284, 285, 286, 23, 287, 73, 73, 73, 77, 77], [81, 288, 289, 290, 24, 291, 73]],
  [[306, 22, 307, 81, 511, 512, 513, 24, 514, 81, 515, 348, 349, 24, 350]],
  [[81, 621, 525, 526, 24, 527, 81, 62, 81, 62], [81, 62]],
  [[189, 38, 39, 211, 191, 192, 194, 195, 72, 196, 190, 72, 197]],
  [[37, 38, 39, 40, 41, 23, 43, 23, 44, 212, 40, 41, 23, 43, 23, 44, 213, 91, 92, 25, 93, 94, 25, 95, 214, 111, 112, 26, 114, 26, 115, 215, 141, 142, 27], [144, 27, 145, 216, 171, 172, 28, 174, 28, 175, 217, 184, 185, 29, 187, 29, 188, 218, 219, 220, 221]],
  [[213, 212, 247, 248, 249, 23, 250, 212, 259, 260, 261, 23, 262, 263, 265, 1, 22, 266]],
  [[212, 355, 285, 286, 23, 287, 356, 357, 22, 358, 267, 269, 2, 22, 270, 214, 212, 271, 272, 273, 25, 274, 212, 80, 212, 80], [602, 339, 22, 340, 212, 80]],
  [[213, 212, 247, 248, 249, 23, 250, 212, 280, 281, 282, 23, 283, 263, 265, 1, 22, 266]],
  [[213, 212, 247, 248, 249, 23, 250, 217, 212, 300, 301, 302, 28, 303, 263, 265, 1, 22, 266]],
  [[212, 355, 285, 286, 23, 287, 356, 357, 22, 358, 267, 269, 2, 22, 270, 359, 361, 8, 22, 362, 412, 413, 414, 26, 415, 359, 361, 8, 22, 362, 420, 417, 418, 26, 419], [359, 361, 8, 22, 362, 127, 212, 83, 421, 422, 423, 24, 424, 212, 83, 425, 426, 427, 24, 428]],
  [[212, 355, 285, 286, 23, 287, 356, 357, 22, 358, 267, 269, 2, 22, 270, 359, 361, 8, 22, 362, 122]],
  [[212, 355, 285, 286, 23, 287, 356, 357, 22, 358, 212, 355, 285, 286, 23, 287, 356, 357, 22, 358, 267, 269, 2, 22, 270], [359, 361, 8, 22, 362, 124]],
  [[267, 269, 2, 22, 270, 359, 361, 8, 22, 362, 434, 435, 436, 26, 437, 359, 361, 8, 22, 362, 438, 439, 440, 26, 441]],
  [[359, 361, 8, 22, 362, 446, 447, 448, 26, 449]],
  [[454, 312, 22, 313, 267, 269, 2, 22, 270, 359, 361, 8, 22, 362, 455, 456, 457, 26, 458]],
  [[308, 309, 22, 310, 308, 309, 22, 310, 454, 312, 22, 313, 454, 312, 22, 313, 267, 269, 2, 22, 270, 356, 357, 22, 358], [267, 269, 2, 22, 270, 212, 76, 212, 76, 267, 269, 2, 22, 270, 216], [359, 361, 8, 22, 362, 470, 471, 472, 27, 473, 216], [156, 216, 154, 63]],
  [[213, 212, 247, 248, 249, 23, 250, 212, 506, 507, 508, 23, 509, 263, 265, 1, 22, 266]],
  [[213, 212, 247, 248, 249, 23, 250, 520, 522, 19, 22, 523, 263, 265, 1, 22, 266]],
  [[213, 212, 247, 248, 249, 23, 250, 212, 617, 618, 619, 23, 620, 263, 265, 1, 22, 266]],
  [[212, 83, 524, 525, 526, 24, 527, 267, 269, 2, 22, 270, 212, 83, 63]],
  [[359, 361, 8, 22, 362, 212, 83, 537, 538, 539, 26, 540]],
  [[454, 312, 22, 313, 356, 357, 22, 358, 267, 269, 2, 22, 270, 215, 212, 363, 364, 365, 26, 366], [212, 83, 547, 293, 294, 24, 295, 212, 83, 548, 549, 550, 24, 551, 554, 556, 20, 22, 557], [215, 212, 83, 528, 481, 482, 26, 483], []],
  [[214, 103, 267, 269, 2, 22, 270, 214, 212, 562, 563, 564, 25, 565, 214, 103]],
  [[219, 220, 221, 218, 193, 212, 76, 212, 83, 57], [212, 83, 59, 214, 103, 267, 269, 2, 22, 270]],
  [[589, 590, 591, 567, 568, 22, 569, 212, 76], [590, 212, 80, 590, 592, 352, 353, 22, 354], [212, 83, 547, 293, 294, 24, 295, 590, 593, 530, 531, 22, 532, 590], [594, 534, 535, 22, 536, 590, 595, 431, 432, 22, 433, 590, 596, 443, 444, 22, 445, 590], [597, 451, 452, 22, 453, 590, 597, 451, 452, 22, 453]],
  [[219, 219, 220, 220], [221, 221]],
  [[267, 269, 2, 22, 270, 214, 213, 271, 272, 273, 25, 274]],
  [[215, 212, 363, 364, 365, 26, 366, 215]],
  [[212, 83, 524, 525, 526, 24, 527, 212, 355, 285, 286, 23, 287, 356, 357, 22, 358, 212, 83, 63], [212, 83, 421, 422, 423, 24, 424, 359, 361, 8, 22, 362, 212, 83, 528, 481, 482, 26, 483], [212, 83, 63]],
  [[212, 76, 212, 83, 421, 422, 423, 24, 424, 215], [212, 83, 528, 481, 482, 26, 483]],
  [[]],
  [[]],
  [[]],
  [[308, 309, 22, 310, 308, 309, 22, 310]],
  [[]],
  [[341, 342, 22, 343]],
  [[344, 345, 22, 346], []],
  [[]],
  [[573]],
  [[577]],
  [[72, 450, 451, 452, 22, 453, 351, 352, 353, 22, 354, 581, 582, 583, 22, 584], [585, 586, 587, 22, 588, 566, 567, 568, 22, 569, 598, 599, 600, 22, 601, 450, 451, 452, 22, 453, 351, 352, 353, 22, 354], [581, 582, 583, 22, 584], [598, 599, 600, 22, 601, 581, 582, 583, 22, 584], [558, 559, 560, 22, 561], [558, 559, 560, 22, 561, 585, 586, 587, 22, 588]],
  [[606, 607, 608, 22, 609], [581, 582, 583, 22, 584, 581, 582, 583, 22, 584], [606, 607, 608, 22, 609], []],
  [[543, 544, 545, 22, 546, 543, 544, 545, 22, 546, 543, 544, 545, 22, 546, 533, 534, 535, 22, 536, 566, 567, 568, 22, 569, 566, 567, 568, 22, 569], [529, 530, 531, 22, 532], [566, 567, 568, 22, 569, 529, 530, 531, 22, 532], [351, 352, 353, 22, 354], [566, 567, 568, 22, 569, 529, 530, 531, 22, 532, 351, 352, 353, 22, 354, 566, 567, 568, 22, 569], [529, 530, 531, 22, 532, 529, 530, 531, 22, 532], [529, 530, 531, 22, 532, 529, 530, 531, 22, 532], [516, 517, 518, 22, 519, 533, 534, 535, 22, 536], [613, 614, 615, 22, 616, 533, 534, 535, 22, 536], [], [516, 517, 518, 22, 519, 529, 530, 531, 22, 532, 351, 352, 353, 22, 354]],
  [[32, 33, 22, 34, 35, 22, 36, 570, 571, 21, 572, 574, 575, 21, 576, 442, 443, 444, 22, 445, 533, 534, 535, 22, 536, 543, 544, 545, 22, 546], [450, 451, 452, 22, 453, 570, 571, 21, 572, 574, 575, 21, 576], [622, 574, 575, 21, 576, 243, 244, 245, 22, 246], [570, 571, 21, 572, 574, 575, 21, 576, 574, 575, 21, 576, 578, 579, 21, 580], [574, 575, 21, 576, 574, 575, 21, 576, 603, 604, 21, 605, 442, 443, 444, 22, 445, 442, 443, 444, 22, 445], [450, 451, 452, 22, 453, 450, 451, 452, 22, 453, 450, 451, 452, 22, 453, 430, 431, 432, 22, 433], [570, 571, 21, 572, 574, 575, 21, 576, 502, 503, 504, 22, 505], [570, 571, 21, 572, 574, 575, 21, 576, 610, 611, 21, 612, 502, 503, 504, 22, 505], [], [516, 517, 518, 22, 519, 466, 467, 468, 22, 469, 533, 534, 535, 22, 536], [466, 467, 468, 22, 469, 466, 467, 468, 22, 469, 466, 467, 468, 22, 469], [466, 467, 468, 22, 469, 466, 467, 468, 22, 469], [533, 534, 535, 22, 536, 276, 277, 278, 22, 279, 529, 530, 531, 22, 532, 529, 530, 531, 22, 532], [558, 559, 560, 22, 561, 566, 567, 568, 22, 569, 529, 530, 531, 22, 532, 529, 530, 531, 22, 532], [533, 534, 535, 22, 536, 570, 571, 21, 572, 574, 575, 21, 576, 570, 571, 21, 572, 623, 574, 575, 21, 576], [296, 297, 298, 22, 299, 466, 467, 468, 22, 469, 533, 534, 535, 22, 536, 442, 443, 444, 22, 445], [351, 352, 353, 22, 354]]]
noncomputable def zPosC : List Nat := [145, 473, 477, 498, 95, 274, 565, 175, 303, 321, 317, 329, 333, 337, 50, 55, 350, 257, 295, 527, 487, 424, 428, 514, 551, 291, 115, 366, 370, 375, 382, 385, 392, 400, 408, 396, 419, 415, 404, 437, 441, 449, 458, 462, 465, 491, 483, 540, 44, 250, 287, 262, 283, 509, 620, 188, 36, 246, 601, 279, 299, 354, 584, 609, 433, 445, 453, 469, 505, 519, 616, 532, 536, 546, 561, 569, 588, 270, 266, 362, 523, 557, 358, 313, 310, 307, 346, 340, 343, 494, 572, 576, 580, 605, 612]
noncomputable def zchunk (y k : Nat) : List (Nat × zP) := ((zC y).drop (25 * k)).take 25
noncomputable def zck (y k : Nat) : Bool := (zchunk y k).all (fun q => decide (decode (zM_ y).2.1 q.1 = .ok (q.2.1, q.2.2.1)) && zON y q.1 q.2 && (zLN (zM_ y).1.cls q.2).all (fun w => decide (w ∈ zNest)))
noncomputable def zgd (y k : Nat) : Bool := ((zPos.getD y []).getD k []).all (fun i => match lw_tbl[i]? with
  | some w => goodWord w
  | none => false)
def zok (y k : Nat) : Prop := zck y k = true ∧ zgd y k = true ∧ ((zchunk y k).flatMap (fun q => zLW (zM_ y).1.cls q.2)).map some = ((zPos.getD y []).getD k []).map (fun i => lw_tbl[i]?)
set_option maxRecDepth 100000 in
theorem zg_0 : ∀ y, y < 2 → ∀ k, k < 2 → zok (0 + y) k := by unfold zok; decide +kernel
set_option maxRecDepth 100000 in
theorem zg_1 : ∀ y, y < 1 → ∀ k, k < 4 → zok (2 + y) k := by unfold zok; decide +kernel
set_option maxRecDepth 100000 in
theorem zg_2 : ∀ y, y < 3 → ∀ k, k < 2 → zok (3 + y) k := by unfold zok; decide +kernel
set_option maxRecDepth 100000 in
theorem zg_3 : ∀ y, y < 2 → ∀ k, k < 1 → zok (6 + y) k := by unfold zok; decide +kernel
set_option maxRecDepth 100000 in
theorem zg_4 : ∀ y, y < 2 → ∀ k, k < 4 → zok (8 + y) k := by unfold zok; decide +kernel
set_option maxRecDepth 100000 in
theorem zg_5 : ∀ y, y < 2 → ∀ k, k < 3 → zok (10 + y) k := by unfold zok; decide +kernel
set_option maxRecDepth 100000 in
theorem zg_6 : ∀ y, y < 5 → ∀ k, k < 2 → zok (12 + y) k := by unfold zok; decide +kernel
set_option maxRecDepth 100000 in
theorem zg_7 : ∀ y, y < 4 → ∀ k, k < 3 → zok (17 + y) k := by unfold zok; decide +kernel
set_option maxRecDepth 100000 in
theorem zg_8 : ∀ y, y < 4 → ∀ k, k < 2 → zok (21 + y) k := by unfold zok; decide +kernel
set_option maxRecDepth 100000 in
theorem zg_9 : ∀ y, y < 2 → ∀ k, k < 3 → zok (25 + y) k := by unfold zok; decide +kernel
set_option maxRecDepth 100000 in
theorem zg_10 : ∀ y, y < 2 → ∀ k, k < 2 → zok (27 + y) k := by unfold zok; decide +kernel
set_option maxRecDepth 100000 in
theorem zg_11 : ∀ y, y < 2 → ∀ k, k < 2 → zok (29 + y) k := by unfold zok; decide +kernel
set_option maxRecDepth 100000 in
theorem zg_12 : ∀ y, y < 2 → ∀ k, k < 3 → zok (31 + y) k := by unfold zok; decide +kernel
set_option maxRecDepth 100000 in
theorem zg_13 : ∀ y, y < 3 → ∀ k, k < 2 → zok (33 + y) k := by unfold zok; decide +kernel
set_option maxRecDepth 100000 in
theorem zg_14 : ∀ y, y < 4 → ∀ k, k < 2 → zok (36 + y) k := by unfold zok; decide +kernel
set_option maxRecDepth 100000 in
theorem zg_15 : ∀ y, y < 3 → ∀ k, k < 2 → zok (40 + y) k := by unfold zok; decide +kernel
set_option maxRecDepth 100000 in
theorem zg_16 : ∀ y, y < 3 → ∀ k, k < 2 → zok (43 + y) k := by unfold zok; decide +kernel
set_option maxRecDepth 100000 in
theorem zg_17 : ∀ y, y < 4 → ∀ k, k < 2 → zok (46 + y) k := by unfold zok; decide +kernel
set_option maxRecDepth 100000 in
theorem zg_18 : ∀ y, y < 4 → ∀ k, k < 2 → zok (50 + y) k := by unfold zok; decide +kernel
set_option maxRecDepth 100000 in
theorem zg_19 : ∀ y, y < 2 → ∀ k, k < 2 → zok (54 + y) k := by unfold zok; decide +kernel
set_option maxRecDepth 100000 in
theorem zg_20 : ∀ y, y < 3 → ∀ k, k < 2 → zok (56 + y) k := by unfold zok; decide +kernel
set_option maxRecDepth 100000 in
theorem zg_21 : ∀ y, y < 4 → ∀ k, k < 2 → zok (59 + y) k := by unfold zok; decide +kernel
set_option maxRecDepth 100000 in
theorem zg_22 : ∀ y, y < 4 → ∀ k, k < 2 → zok (63 + y) k := by unfold zok; decide +kernel
set_option maxRecDepth 100000 in
theorem zg_23 : ∀ y, y < 2 → ∀ k, k < 4 → zok (67 + y) k := by unfold zok; decide +kernel
set_option maxRecDepth 100000 in
theorem zg_24 : ∀ y, y < 4 → ∀ k, k < 1 → zok (69 + y) k := by unfold zok; decide +kernel
set_option maxRecDepth 100000 in
theorem zg_25 : ∀ y, y < 1 → ∀ k, k < 4 → zok (73 + y) k := by unfold zok; decide +kernel
set_option maxRecDepth 100000 in
theorem zg_26 : ∀ y, y < 2 → ∀ k, k < 2 → zok (74 + y) k := by unfold zok; decide +kernel
set_option maxRecDepth 100000 in
theorem zg_27 : ∀ y, y < 1 → ∀ k, k < 5 → zok (76 + y) k := by unfold zok; decide +kernel
set_option maxRecDepth 100000 in
theorem zg_28 : ∀ y, y < 3 → ∀ k, k < 2 → zok (77 + y) k := by unfold zok; decide +kernel
set_option maxRecDepth 100000 in
theorem zg_29 : ∀ y, y < 1 → ∀ k, k < 3 → zok (80 + y) k := by unfold zok; decide +kernel
set_option maxRecDepth 100000 in
theorem zg_30 : ∀ y, y < 6 → ∀ k, k < 2 → zok (81 + y) k := by unfold zok; decide +kernel
set_option maxRecDepth 100000 in
theorem zg_31 : ∀ y, y < 5 → ∀ k, k < 2 → zok (87 + y) k := by unfold zok; decide +kernel
set_option maxRecDepth 100000 in
theorem zg_32 : ∀ y, y < 1 → ∀ k, k < 6 → zok (92 + y) k := by unfold zok; decide +kernel
set_option maxRecDepth 100000 in
theorem zg_33 : ∀ y, y < 1 → ∀ k, k < 4 → zok (93 + y) k := by unfold zok; decide +kernel
set_option maxRecDepth 100000 in
theorem zg_34 : ∀ y, y < 1 → ∀ k, k < 11 → zok (94 + y) k := by unfold zok; decide +kernel
set_option maxRecDepth 100000 in
theorem zgl_0 : zok 95 0 := by unfold zok; decide +kernel
set_option maxRecDepth 100000 in
theorem zgl_1 : zok 95 1 := by unfold zok; decide +kernel
set_option maxRecDepth 100000 in
theorem zgl_2 : zok 95 2 := by unfold zok; decide +kernel
set_option maxRecDepth 100000 in
theorem zgl_3 : zok 95 3 := by unfold zok; decide +kernel
set_option maxRecDepth 100000 in
theorem zgl_4 : zok 95 4 := by unfold zok; decide +kernel
set_option maxRecDepth 100000 in
theorem zgl_5 : zok 95 5 := by unfold zok; decide +kernel
set_option maxRecDepth 100000 in
theorem zgl_6 : zok 95 6 := by unfold zok; decide +kernel
set_option maxRecDepth 100000 in
theorem zgl_7 : zok 95 7 := by unfold zok; decide +kernel
set_option maxRecDepth 100000 in
theorem zgl_8 : zok 95 8 := by unfold zok; decide +kernel
set_option maxRecDepth 100000 in
theorem zgl_9 : zok 95 9 := by unfold zok; decide +kernel
set_option maxRecDepth 100000 in
theorem zgl_10 : zok 95 10 := by unfold zok; decide +kernel
set_option maxRecDepth 100000 in
theorem zgl_11 : zok 95 11 := by unfold zok; decide +kernel
set_option maxRecDepth 100000 in
theorem zgl_12 : zok 95 12 := by unfold zok; decide +kernel
set_option maxRecDepth 100000 in
theorem zgl_13 : zok 95 13 := by unfold zok; decide +kernel
set_option maxRecDepth 100000 in
theorem zgl_14 : zok 95 14 := by unfold zok; decide +kernel
set_option maxRecDepth 100000 in
theorem zgl_15 : zok 95 15 := by unfold zok; decide +kernel
set_option maxRecDepth 100000 in
theorem zgl_16 : zok 95 16 := by unfold zok; decide +kernel
set_option maxRecDepth 100000 in
theorem zlens : ∀ y, y < 96 → (zC y).length ≤ 600 := by decide +kernel
/-- no more chunks than instructions need -/
noncomputable def zKs : List Nat := [2, 2, 4, 2, 2, 2, 1, 1, 4, 4, 3, 3, 2, 2, 2, 2, 2, 3, 3, 3, 3, 2, 2, 2, 2, 3, 3, 2, 2, 2, 2, 3, 3, 2, 2, 2, 2, 2, 2, 2, 2, 2, 2, 2, 2, 2, 2, 2, 2, 2, 2, 2, 2, 2, 2, 2, 2, 2, 2, 2, 2, 2, 2, 2, 2, 2, 2, 4, 4, 1, 1, 1, 1, 4, 2, 2, 5, 2, 2, 2, 3, 2, 2, 2, 2, 2, 2, 2, 2, 2, 2, 2, 6, 4, 11, 17]
set_option maxRecDepth 100000 in
theorem zKs_ok : ∀ y, y < 96 → (zC y).length ≤ 25 * zKs.getD y 0 := by decide +kernel
theorem zKb_0 : ∀ y, y < 2 → 0 ≤ y → zKs.getD y 0 ≤ 2 := by decide +kernel
theorem zKb_1 : ∀ y, y < 3 → 2 ≤ y → zKs.getD y 0 ≤ 4 := by decide +kernel
theorem zKb_2 : ∀ y, y < 6 → 3 ≤ y → zKs.getD y 0 ≤ 2 := by decide +kernel
theorem zKb_3 : ∀ y, y < 8 → 6 ≤ y → zKs.getD y 0 ≤ 1 := by decide +kernel
theorem zKb_4 : ∀ y, y < 10 → 8 ≤ y → zKs.getD y 0 ≤ 4 := by decide +kernel
theorem zKb_5 : ∀ y, y < 12 → 10 ≤ y → zKs.getD y 0 ≤ 3 := by decide +kernel
theorem zKb_6 : ∀ y, y < 17 → 12 ≤ y → zKs.getD y 0 ≤ 2 := by decide +kernel
theorem zKb_7 : ∀ y, y < 21 → 17 ≤ y → zKs.getD y 0 ≤ 3 := by decide +kernel
theorem zKb_8 : ∀ y, y < 25 → 21 ≤ y → zKs.getD y 0 ≤ 2 := by decide +kernel
theorem zKb_9 : ∀ y, y < 27 → 25 ≤ y → zKs.getD y 0 ≤ 3 := by decide +kernel
theorem zKb_10 : ∀ y, y < 29 → 27 ≤ y → zKs.getD y 0 ≤ 2 := by decide +kernel
theorem zKb_11 : ∀ y, y < 31 → 29 ≤ y → zKs.getD y 0 ≤ 2 := by decide +kernel
theorem zKb_12 : ∀ y, y < 33 → 31 ≤ y → zKs.getD y 0 ≤ 3 := by decide +kernel
theorem zKb_13 : ∀ y, y < 36 → 33 ≤ y → zKs.getD y 0 ≤ 2 := by decide +kernel
theorem zKb_14 : ∀ y, y < 40 → 36 ≤ y → zKs.getD y 0 ≤ 2 := by decide +kernel
theorem zKb_15 : ∀ y, y < 43 → 40 ≤ y → zKs.getD y 0 ≤ 2 := by decide +kernel
theorem zKb_16 : ∀ y, y < 46 → 43 ≤ y → zKs.getD y 0 ≤ 2 := by decide +kernel
theorem zKb_17 : ∀ y, y < 50 → 46 ≤ y → zKs.getD y 0 ≤ 2 := by decide +kernel
theorem zKb_18 : ∀ y, y < 54 → 50 ≤ y → zKs.getD y 0 ≤ 2 := by decide +kernel
theorem zKb_19 : ∀ y, y < 56 → 54 ≤ y → zKs.getD y 0 ≤ 2 := by decide +kernel
theorem zKb_20 : ∀ y, y < 59 → 56 ≤ y → zKs.getD y 0 ≤ 2 := by decide +kernel
theorem zKb_21 : ∀ y, y < 63 → 59 ≤ y → zKs.getD y 0 ≤ 2 := by decide +kernel
theorem zKb_22 : ∀ y, y < 67 → 63 ≤ y → zKs.getD y 0 ≤ 2 := by decide +kernel
theorem zKb_23 : ∀ y, y < 69 → 67 ≤ y → zKs.getD y 0 ≤ 4 := by decide +kernel
theorem zKb_24 : ∀ y, y < 73 → 69 ≤ y → zKs.getD y 0 ≤ 1 := by decide +kernel
theorem zKb_25 : ∀ y, y < 74 → 73 ≤ y → zKs.getD y 0 ≤ 4 := by decide +kernel
theorem zKb_26 : ∀ y, y < 76 → 74 ≤ y → zKs.getD y 0 ≤ 2 := by decide +kernel
theorem zKb_27 : ∀ y, y < 77 → 76 ≤ y → zKs.getD y 0 ≤ 5 := by decide +kernel
theorem zKb_28 : ∀ y, y < 80 → 77 ≤ y → zKs.getD y 0 ≤ 2 := by decide +kernel
theorem zKb_29 : ∀ y, y < 81 → 80 ≤ y → zKs.getD y 0 ≤ 3 := by decide +kernel
theorem zKb_30 : ∀ y, y < 87 → 81 ≤ y → zKs.getD y 0 ≤ 2 := by decide +kernel
theorem zKb_31 : ∀ y, y < 92 → 87 ≤ y → zKs.getD y 0 ≤ 2 := by decide +kernel
theorem zKb_32 : ∀ y, y < 93 → 92 ≤ y → zKs.getD y 0 ≤ 6 := by decide +kernel
theorem zKb_33 : ∀ y, y < 94 → 93 ≤ y → zKs.getD y 0 ≤ 4 := by decide +kernel
theorem zKb_34 : ∀ y, y < 95 → 94 ≤ y → zKs.getD y 0 ≤ 11 := by decide +kernel
theorem zok_all (y k : Nat) (hy : y < 96) (hk : k < zKs.getD y 0) : zok y k := by
  rcases Nat.lt_or_ge y 2 with h0 | h0
  · have e : 0 + (y - 0) = y := by omega
    have hk2 : zKs.getD y 0 ≤ 2 := zKb_0 y h0 (by omega)
    have h := zg_0 (y - 0) (by omega) k (by omega)
    rw [e] at h
    exact h
  rcases Nat.lt_or_ge y 3 with h1 | h1
  · have e : 2 + (y - 2) = y := by omega
    have hk2 : zKs.getD y 0 ≤ 4 := zKb_1 y h1 (by omega)
    have h := zg_1 (y - 2) (by omega) k (by omega)
    rw [e] at h
    exact h
  rcases Nat.lt_or_ge y 6 with h2 | h2
  · have e : 3 + (y - 3) = y := by omega
    have hk2 : zKs.getD y 0 ≤ 2 := zKb_2 y h2 (by omega)
    have h := zg_2 (y - 3) (by omega) k (by omega)
    rw [e] at h
    exact h
  rcases Nat.lt_or_ge y 8 with h3 | h3
  · have e : 6 + (y - 6) = y := by omega
    have hk2 : zKs.getD y 0 ≤ 1 := zKb_3 y h3 (by omega)
    have h := zg_3 (y - 6) (by omega) k (by omega)
    rw [e] at h
    exact h
  rcases Nat.lt_or_ge y 10 with h4 | h4
  · have e : 8 + (y - 8) = y := by omega
    have hk2 : zKs.getD y 0 ≤ 4 := zKb_4 y h4 (by omega)
    have h := zg_4 (y - 8) (by omega) k (by omega)
    rw [e] at h
    exact h
  rcases Nat.lt_or_ge y 12 with h5 | h5
  · have e : 10 + (y - 10) = y := by omega
    have hk2 : zKs.getD y 0 ≤ 3 := zKb_5 y h5 (by omega)
    have h := zg_5 (y - 10) (by omega) k (by omega)
    rw [e] at h
    exact h
  rcases Nat.lt_or_ge y 17 with h6 | h6
  · have e : 12 + (y - 12) = y := by omega
    have hk2 : zKs.getD y 0 ≤ 2 := zKb_6 y h6 (by omega)
    have h := zg_6 (y - 12) (by omega) k (by omega)
    rw [e] at h
    exact h
  rcases Nat.lt_or_ge y 21 with h7 | h7
  · have e : 17 + (y - 17) = y := by omega
    have hk2 : zKs.getD y 0 ≤ 3 := zKb_7 y h7 (by omega)
    have h := zg_7 (y - 17) (by omega) k (by omega)
    rw [e] at h
    exact h
  rcases Nat.lt_or_ge y 25 with h8 | h8
  · have e : 21 + (y - 21) = y := by omega
    have hk2 : zKs.getD y 0 ≤ 2 := zKb_8 y h8 (by omega)
    have h := zg_8 (y - 21) (by omega) k (by omega)
    rw [e] at h
    exact h
  rcases Nat.lt_or_ge y 27 with h9 | h9
  · have e : 25 + (y - 25) = y := by omega
    have hk2 : zKs.getD y 0 ≤ 3 := zKb_9 y h9 (by omega)
    have h := zg_9 (y - 25) (by omega) k (by omega)
    rw [e] at h
    exact h
  rcases Nat.lt_or_ge y 29 with h10 | h10
  · have e : 27 + (y - 27) = y := by omega
    have hk2 : zKs.getD y 0 ≤ 2 := zKb_10 y h10 (by omega)
    have h := zg_10 (y - 27) (by omega) k (by omega)
    rw [e] at h
    exact h
  rcases Nat.lt_or_ge y 31 with h11 | h11
  · have e : 29 + (y - 29) = y := by omega
    have hk2 : zKs.getD y 0 ≤ 2 := zKb_11 y h11 (by omega)
    have h := zg_11 (y - 29) (by omega) k (by omega)
    rw [e] at h
    exact h
  rcases Nat.lt_or_ge y 33 with h12 | h12
  · have e : 31 + (y - 31) = y := by omega
    have hk2 : zKs.getD y 0 ≤ 3 := zKb_12 y h12 (by omega)
    have h := zg_12 (y - 31) (by omega) k (by omega)
    rw [e] at h
    exact h
  rcases Nat.lt_or_ge y 36 with h13 | h13
  · have e : 33 + (y - 33) = y := by omega
    have hk2 : zKs.getD y 0 ≤ 2 := zKb_13 y h13 (by omega)
    have h := zg_13 (y - 33) (by omega) k (by omega)
    rw [e] at h
    exact h
  rcases Nat.lt_or_ge y 40 with h14 | h14
  · have e : 36 + (y - 36) = y := by omega
    have hk2 : zKs.getD y 0 ≤ 2 := zKb_14 y h14 (by omega)
    have h := zg_14 (y - 36) (by omega) k (by omega)
    rw [e] at h
    exact h
  rcases Nat.lt_or_ge y 43 with h15 | h15
  · have e : 40 + (y - 40) = y := by omega
    have hk2 : zKs.getD y 0 ≤ 2 := zKb_15 y h15 (by omega)
    have h := zg_15 (y - 40) (by omega) k (by omega)
    rw [e] at h
    exact h
  rcases Nat.lt_or_ge y 46 with h16 | h16
  · have e : 43 + (y - 43) = y := by omega
    have hk2 : zKs.getD y 0 ≤ 2 := zKb_16 y h16 (by omega)
    have h := zg_16 (y - 43) (by omega) k (by omega)
    rw [e] at h
    exact h
  rcases Nat.lt_or_ge y 50 with h17 | h17
  · have e : 46 + (y - 46) = y := by omega
    have hk2 : zKs.getD y 0 ≤ 2 := zKb_17 y h17 (by omega)
    have h := zg_17 (y - 46) (by omega) k (by omega)
    rw [e] at h
    exact h
  rcases Nat.lt_or_ge y 54 with h18 | h18
  · have e : 50 + (y - 50) = y := by omega
    have hk2 : zKs.getD y 0 ≤ 2 := zKb_18 y h18 (by omega)
    have h := zg_18 (y - 50) (by omega) k (by omega)
    rw [e] at h
    exact h
  rcases Nat.lt_or_ge y 56 with h19 | h19
  · have e : 54 + (y - 54) = y := by omega
    have hk2 : zKs.getD y 0 ≤ 2 := zKb_19 y h19 (by omega)
    have h := zg_19 (y - 54) (by omega) k (by omega)
    rw [e] at h
    exact h
  rcases Nat.lt_or_ge y 59 with h20 | h20
  · have e : 56 + (y - 56) = y := by omega
    have hk2 : zKs.getD y 0 ≤ 2 := zKb_20 y h20 (by omega)
    have h := zg_20 (y - 56) (by omega) k (by omega)
    rw [e] at h
    exact h
  rcases Nat.lt_or_ge y 63 with h21 | h21
  · have e : 59 + (y - 59) = y := by omega
    have hk2 : zKs.getD y 0 ≤ 2 := zKb_21 y h21 (by omega)
    have h := zg_21 (y - 59) (by omega) k (by omega)
    rw [e] at h
    exact h
  rcases Nat.lt_or_ge y 67 with h22 | h22
  · have e : 63 + (y - 63) = y := by omega
    have hk2 : zKs.getD y 0 ≤ 2 := zKb_22 y h22 (by omega)
    have h := zg_22 (y - 63) (by omega) k (by omega)
    rw [e] at h
    exact h
  rcases Nat.lt_or_ge y 69 with h23 | h23
  · have e : 67 + (y - 67) = y := by omega
    have hk2 : zKs.getD y 0 ≤ 4 := zKb_23 y h23 (by omega)
    have h := zg_23 (y - 67) (by omega) k (by omega)
    rw [e] at h
    exact h
  rcases Nat.lt_or_ge y 73 with h24 | h24
  · have e : 69 + (y - 69) = y := by omega
    have hk2 : zKs.getD y 0 ≤ 1 := zKb_24 y h24 (by omega)
    have h := zg_24 (y - 69) (by omega) k (by omega)
    rw [e] at h
    exact h
  rcases Nat.lt_or_ge y 74 with h25 | h25
  · have e : 73 + (y - 73) = y := by omega
    have hk2 : zKs.getD y 0 ≤ 4 := zKb_25 y h25 (by omega)
    have h := zg_25 (y - 73) (by omega) k (by omega)
    rw [e] at h
    exact h
  rcases Nat.lt_or_ge y 76 with h26 | h26
  · have e : 74 + (y - 74) = y := by omega
    have hk2 : zKs.getD y 0 ≤ 2 := zKb_26 y h26 (by omega)
    have h := zg_26 (y - 74) (by omega) k (by omega)
    rw [e] at h
    exact h
  rcases Nat.lt_or_ge y 77 with h27 | h27
  · have e : 76 + (y - 76) = y := by omega
    have hk2 : zKs.getD y 0 ≤ 5 := zKb_27 y h27 (by omega)
    have h := zg_27 (y - 76) (by omega) k (by omega)
    rw [e] at h
    exact h
  rcases Nat.lt_or_ge y 80 with h28 | h28
  · have e : 77 + (y - 77) = y := by omega
    have hk2 : zKs.getD y 0 ≤ 2 := zKb_28 y h28 (by omega)
    have h := zg_28 (y - 77) (by omega) k (by omega)
    rw [e] at h
    exact h
  rcases Nat.lt_or_ge y 81 with h29 | h29
  · have e : 80 + (y - 80) = y := by omega
    have hk2 : zKs.getD y 0 ≤ 3 := zKb_29 y h29 (by omega)
    have h := zg_29 (y - 80) (by omega) k (by omega)
    rw [e] at h
    exact h
  rcases Nat.lt_or_ge y 87 with h30 | h30
  · have e : 81 + (y - 81) = y := by omega
    have hk2 : zKs.getD y 0 ≤ 2 := zKb_30 y h30 (by omega)
    have h := zg_30 (y - 81) (by omega) k (by omega)
    rw [e] at h
    exact h
  rcases Nat.lt_or_ge y 92 with h31 | h31
  · have e : 87 + (y - 87) = y := by omega
    have hk2 : zKs.getD y 0 ≤ 2 := zKb_31 y h31 (by omega)
    have h := zg_31 (y - 87) (by omega) k (by omega)
    rw [e] at h
    exact h
  rcases Nat.lt_or_ge y 93 with h32 | h32
  · have e : 92 + (y - 92) = y := by omega
    have hk2 : zKs.getD y 0 ≤ 6 := zKb_32 y h32 (by omega)
    have h := zg_32 (y - 92) (by omega) k (by omega)
    rw [e] at h
    exact h
  rcases Nat.lt_or_ge y 94 with h33 | h33
  · have e : 93 + (y - 93) = y := by omega
    have hk2 : zKs.getD y 0 ≤ 4 := zKb_33 y h33 (by omega)
    have h := zg_33 (y - 93) (by omega) k (by omega)
    rw [e] at h
    exact h
  rcases Nat.lt_or_ge y 95 with h34 | h34
  · have e : 94 + (y - 94) = y := by omega
    have hk2 : zKs.getD y 0 ≤ 11 := zKb_34 y h34 (by omega)
    have h := zg_34 (y - 94) (by omega) k (by omega)
    rw [e] at h
    exact h
  have e : y = 95 := by omega
  subst e
  have hk : k < 17 := hk
  match k, hk with
  | 0, _ => exact zgl_0
  | 1, _ => exact zgl_1
  | 2, _ => exact zgl_2
  | 3, _ => exact zgl_3
  | 4, _ => exact zgl_4
  | 5, _ => exact zgl_5
  | 6, _ => exact zgl_6
  | 7, _ => exact zgl_7
  | 8, _ => exact zgl_8
  | 9, _ => exact zgl_9
  | 10, _ => exact zgl_10
  | 11, _ => exact zgl_11
  | 12, _ => exact zgl_12
  | 13, _ => exact zgl_13
  | 14, _ => exact zgl_14
  | 15, _ => exact zgl_15
  | 16, _ => exact zgl_16
  | k + 17, h => omega
