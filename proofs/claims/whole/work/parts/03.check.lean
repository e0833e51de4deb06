/-! each instruction of the tables is what decode says, and its constant names what the table says, by the tables' words -/
abbrev zpA (p : zP) : Nat := p.2.2.1
abbrev zpB (p : zP) : Nat := p.2.2.2.1
abbrev zpK (p : zP) : Nat := p.2.2.2.2.1
abbrev zpZ (p : zP) : Int := p.2.2.2.2.2
def zCd : vw_C := ("", fun _ => ("", "", "", false), 0)
noncomputable def zTd : MethodName × ByteArray × Nat × Option FieldType := (⟨"", "", ""⟩, ⟨#[]⟩, 0, none)
abbrev zF (c k : Nat) : String × String × String × Bool := ((zCl.getD c zCd).2.1) k
noncomputable abbrev zM_ (y : Nat) : MethodName × ByteArray × Nat × Option FieldType := zT.getD y zTd
/-- the words of an instruction, but those of nest mates -/
noncomputable def zLW (own : String) (p : zP) : List Cond := match p.1 with
  | .getfield ix => if zpK p = 1 then [] else [.fieldLink own ix (zF (zpA p) (zpB p)).1 (zF (zpA p) (zpB p)).2.1 (zF (zpA p) (zpB p)).2.2.1]
  | .putfield ix => if zpK p = 1 then [] else [.fieldLink own ix (zF (zpA p) (zpB p)).1 (zF (zpA p) (zpB p)).2.1 (zF (zpA p) (zpB p)).2.2.1]
  | .invokevirtual ix => [.methodLink own ix (zM_ (zpA p)).1, .instanceMethod (zM_ (zpA p)).1, .selects (zM_ (zpA p)).1.cls (zM_ (zpA p)).1 (zM_ (zpA p)).1, .initialized (zM_ (zpA p)).1.cls, .code (zM_ (zpA p)).1 (zM_ (zpA p)).2.1 (zM_ (zpA p)).2.2.1 (zM_ (zpA p)).2.2.2]
  | .invokestatic ix => if zpK p = 11 then [.methodLink own ix Lib.Math.abs.name, .static Lib.Math.abs.name, .initialized "java/lang/Math", .code Lib.Math.abs.name Lib.Math.abs.code 1 (some .int)]
    else if zpK p = 12 then [.methodLink own ix Lib.Math.min.name, .static Lib.Math.min.name, .initialized "java/lang/Math", .code Lib.Math.min.name Lib.Math.min.code 2 (some .int)]
    else if zpK p = 13 then [.methodLink own ix arraycopyName, .native arraycopyName, .static arraycopyName, .initialized "java/lang/System"]
    else (if zpK p = 3 then [] else [.methodLink own ix (zM_ (zpA p)).1]) ++ [.static (zM_ (zpA p)).1, .initialized (zM_ (zpA p)).1.cls, .code (zM_ (zpA p)).1 (zM_ (zpA p)).2.1 (zM_ (zpA p)).2.2.1 (zM_ (zpA p)).2.2.2]
  | .invokespecial ix => if zpK p = 10 then [.methodLink own ix objectInit, .instanceMethod objectInit, .code objectInit ⟨#[0xb1]⟩ 1 none]
    else (if zpK p = 4 then [] else [.methodLink own ix (zM_ (zpA p)).1]) ++ [.instanceMethod (zM_ (zpA p)).1, .initialized (zM_ (zpA p)).1.cls, .code (zM_ (zpA p)).1 (zM_ (zpA p)).2.1 (zM_ (zpA p)).2.2.1 (zM_ (zpA p)).2.2.2]
  | .new ix => [.classLink own ix (zCl.getD (zpA p) zCd).1, .instantiable (zCl.getD (zpA p) zCd).1 (zCl.getD (zpA p) zCd).2.2, .initialized (zCl.getD (zpA p) zCd).1]
  | .newarray t => [.arrayClass (newarray.typeOf t)]
  | .anewarray ix => [.classLink own ix "EdgeJoin$State"]
  | .multianewarray ix _ => [.classLink own ix "[[I", .arrayClass .int]
  | .ldc2_w ix => [.constantLong own ix (Int64.ofInt (zpZ p))]
  | .ldc ix => [.constant own ix (Int32.ofInt (zpZ p))]
  | .getstatic ix => if zpK p = 1 then [] else [.fieldLink own ix "EdgeJoin" "RIM" "[I"]
  | _ => []
/-- the words of nest mates -/
noncomputable def zLN (own : String) (p : zP) : List Cond := match p.1 with
  | .getfield ix => if zpK p = 1 then [.fieldLinkNest own ix (zF (zpA p) (zpB p)).1 (zF (zpA p) (zpB p)).2.1 (zF (zpA p) (zpB p)).2.2.1 "EdgeJoin"] else []
  | .putfield ix => if zpK p = 1 then [.fieldLinkNest own ix (zF (zpA p) (zpB p)).1 (zF (zpA p) (zpB p)).2.1 (zF (zpA p) (zpB p)).2.2.1 "EdgeJoin"] else []
  | .getstatic ix => if zpK p = 1 then [.fieldLinkNest own ix "EdgeJoin" "RIM" "[I" "EdgeJoin"] else []
  | .invokestatic ix => if zpK p = 3 then [.methodLinkNest own ix (zM_ (zpA p)).1 "EdgeJoin"] else []
  | .invokespecial ix => if zpK p = 4 then [.methodLinkNest own ix (zM_ (zpA p)).1 "EdgeJoin"] else []
  | _ => []
/-- the numbers of an instruction -/
noncomputable def zON (y pc : Nat) (p : zP) : Bool := match p.1 with
  | .bipush n => decide ((Int8.ofInt n).toInt32 = Int32.ofInt n) && decide (p.2.1 = 2)
  | .sipush n => decide ((Int16.ofInt n).toInt32 = Int32.ofInt n) && decide (p.2.1 = 3)
  | .iload _ => decide (p.2.1 = 2)
  | .lload _ => decide (p.2.1 = 2)
  | .istore _ => decide (p.2.1 = 2)
  | .lstore _ => decide (p.2.1 = 2)
  | .iinc _ _ => decide (p.2.1 = 3)
  | .ldc _ => decide (p.2.1 = 2)
  | .ldc2_w _ => decide (p.2.1 = 3)
  | .ifCond _ o => decide ((pc : Int) + o = (zpA p : Int)) && decide (p.2.1 = 3)
  | .if_icmp _ o => decide ((pc : Int) + o = (zpA p : Int)) && decide (p.2.1 = 3)
  | .goto o => decide ((pc : Int) + o = (zpA p : Int)) && decide (p.2.1 = 3)
  | .getfield _ => decide (p.2.1 = 3) && decide (zpK p < 2) && decide (zpB p < (zCl.getD (zpA p) zCd).2.2)
  | .putfield _ => decide (p.2.1 = 3) && decide ((zpK p = 2 ∧ (zF (zpA p) (zpB p)).2.2.2 = true ∧ (zM_ y).1.name = "<init>" ∧ (zM_ y).1.cls = (zCl.getD (zpA p) zCd).1) ∨ (zpK p < 2 ∧ (zF (zpA p) (zpB p)).2.2.2 = false)) && decide (zpB p < (zCl.getD (zpA p) zCd).2.2)
  | .getstatic _ => decide (p.2.1 = 3)
  | .invokevirtual _ => decide (p.2.1 = 3) && decide (zpK p = 0) && decide ((parseMethodDescriptor (zM_ (zpA p)).1.desc).map (fun d => d.parameters.length + 1) = some (zpB p))
  | .invokestatic _ => decide (p.2.1 = 3) && (decide (zpK p = 11) || decide (zpK p = 12) || decide (zpK p = 13) || (decide (zpK p = 1 ∨ zpK p = 3) && decide ((parseMethodDescriptor (zM_ (zpA p)).1.desc).map (fun d => d.parameters.length) = some (zpB p))))
  | .invokespecial _ => decide (p.2.1 = 3) && (decide (zpK p = 10) || (decide (zpK p = 2 ∨ zpK p = 4) && decide ((zM_ (zpA p)).1.name = "<init>") && decide ((zM_ (zpA p)).2.2.2 = none) && decide ((parseMethodDescriptor (zM_ (zpA p)).1.desc).map (fun d => d.parameters.length + 1) = some (zpB p))))
  | .new _ => decide (p.2.1 = 3)
  | .newarray t => decide (p.2.1 = 2) && (decide (newarray.typeOf t = .int) || decide (newarray.typeOf t = .byte) || decide (newarray.typeOf t = .boolean))
  | .anewarray _ => decide (p.2.1 = 3)
  | .multianewarray _ d => decide (p.2.1 = 4) && decide (d = 2)
  | .tableswitch d lo hi os => decide (0 ≤ (pc : Int) + d) && os.all (fun o => decide (0 ≤ (pc : Int) + o)) && decide (hi - lo + 1 = (os.size : Int))
  | .lookupswitch d ps => decide (0 ≤ (pc : Int) + d) && ps.all (fun o => decide (0 ≤ (pc : Int) + o.2)) && (ps.toList.zip (ps.toList.drop 1)).all (fun (a, next) => a.1 < next.1)
  | _ => decide (p.2.1 = 1)
def zGood : List Cond := lw_tbl.filter goodWord
def zNest : List Cond := lw_tbl.filter (fun w => match w with | .methodLinkNest _ _ _ _ => true | .fieldLinkNest _ _ _ _ _ _ => true | _ => false)
/-! the places of the words, by 25 instructions -/
noncomputable def zPos : List (List (List Nat)) := [[[207, 98, 99, 210, 211, 231, 212, 208, 107, 83, 209, 109, 83, 110, 213, 208, 107, 83, 209, 109, 83, 110, 214, 216], []],
  [[210, 211, 212, 213], [560, 421, 422, 83, 423, 216, 561, 562, 86, 563, 216]],
  [[213, 564, 374, 375, 83, 376, 216, 214, 213, 565, 319, 320, 83, 321, 213, 564, 374, 375, 83, 376], [210, 212, 213, 566, 567, 568, 85, 569], [216, 211, 581, 583, 18, 86, 584, 212, 213, 121], [561, 562, 86, 563, 213, 121, 212]],
  [[213, 585, 571, 572, 83, 573, 579, 81, 580, 587, 467, 468, 85, 469], []],
  [[156, 98, 99, 157, 160, 161, 162, 160, 157, 101, 82, 103, 82, 104], []],
  [[160, 161, 162, 339, 312, 313, 82, 314, 162, 162, 162], [161, 161]],
  [[162, 162, 162, 160, 161, 162, 339, 312, 313, 82, 314]],
  [[237, 98, 99, 238, 132, 239]],
  [[385, 387, 81, 388, 393, 81, 394, 238], [395, 397, 3, 87, 398, 135, 135, 139], [407, 409, 5, 87, 410, 411, 413, 6, 87, 414, 415, 417, 7, 87, 418, 142], [420, 421, 422, 83, 423, 135]],
  [[403, 238, 404, 405, 238, 238, 406]],
  [[], [239, 399, 401, 4, 87, 402], []],
  [[239], []],
  [[135, 399, 401, 4, 87, 402, 139, 139, 139], [139]],
  [[135, 139, 139, 399, 401, 4, 87, 402, 352, 81, 353]],
  [[111, 98, 99, 116, 118, 132, 120, 112, 114, 0, 83, 115]],
  [[120]],
  [[116, 118, 112, 114, 0, 83, 115]],
  [[116, 116, 118, 118, 120, 120, 322, 317, 316, 90]],
  [[116, 118]],
  [[373, 374, 375, 83, 376]],
  [[116, 116, 116, 373, 374, 375, 83, 376], [116, 116, 116, 116], []],
  [[373, 374, 375, 83, 376, 120, 120], []],
  [[502, 495, 496, 83, 497, 120]],
  [[373, 374, 375, 83, 376, 120]],
  [[120, 647, 571, 572, 83, 573, 120], [648, 598, 599, 83, 600]],
  [[373, 374, 375, 83, 376, 120, 120, 120], [120, 120, 120], []],
  [[176, 98, 99, 179, 132, 180, 132, 181, 177, 132, 183, 132, 185, 132], [187]],
  [[440, 442, 9, 85, 443, 134, 179, 138, 180, 444, 317, 316, 90, 445, 447, 10, 85, 448, 452, 454, 11, 85, 455], [179, 185, 462, 464, 12, 85, 465, 470, 472, 13, 85, 473]],
  [[179, 134, 179, 180, 138], []],
  [[179, 180], [358, 81, 359, 181]],
  [[179, 181, 181, 456, 457, 85, 458, 183], [183]],
  [[358, 81, 359, 358, 81, 359, 459, 460, 91, 461]],
  [[179, 466, 467, 468, 85, 469], [466, 467, 468, 85, 469, 183, 183], []],
  [[179, 187, 179, 474, 476, 14, 85, 477], [187, 187, 185, 478, 480, 15, 85, 481]],
  [[179, 187, 187, 187, 482, 483, 91, 484], []],
  [[181]],
  [[466, 467, 468, 85, 469]],
  [[489, 490, 491, 85, 492], []],
  [[185, 185]],
  [[179, 474, 476, 14, 85, 477]],
  [[179, 474, 476, 14, 85, 477, 185], []],
  [[179, 187]],
  [[179, 545, 547, 16, 85, 548]],
  [[181, 549, 550, 85, 551, 181, 181], []],
  [[358, 81, 359]],
  [[183, 579, 81, 580, 579, 81, 580]],
  [[570, 571, 572, 83, 573, 124], [124, 574, 576, 17, 85, 577]],
  [[636, 374, 375, 83, 376, 124, 124, 637, 567, 568, 85, 569], []],
  [[105, 98, 99, 133, 132, 137, 106, 107, 83, 108, 109, 83, 110, 141]],
  [[133, 133, 137, 137, 315, 317, 316, 90, 141, 141, 318, 319, 320, 83, 321]],
  [[133]],
  [[133, 137, 133, 133, 133, 133]],
  [[368, 345, 346, 82, 347, 133, 133, 133, 137, 137], [141, 369, 370, 371, 83, 372, 133]],
  [[387, 81, 388, 141, 597, 598, 599, 83, 600, 141, 601, 421, 422, 83, 423]],
  [[141, 623, 611, 612, 83, 613, 141, 122, 141, 122], [141, 122]],
  [[250, 98, 99, 275, 252, 253, 255, 256, 132, 258, 251, 132, 260]],
  [[253, 252, 253, 253, 253]],
  [[255, 256, 673, 675, 21, 88, 676, 677, 679, 22, 88, 680, 255, 256], [256, 673, 675, 21, 88, 676, 255, 253, 255]],
  [[681, 683, 23, 88, 684, 685, 686, 88, 687, 255, 255, 258], [688, 690, 24, 88, 691, 693, 695, 25, 88, 696, 673, 675, 21, 88, 676, 681, 683, 23, 88, 684, 255], [255]],
  [[]],
  [[673, 675, 21, 88, 676, 681, 683, 23, 88, 684, 349, 81, 350], [255, 255, 260]],
  [[673, 675, 21, 88, 676, 255, 697, 699, 26, 88, 700, 255], [681, 683, 23, 88, 684, 255, 255, 255, 697, 699, 26, 88, 700, 260], []],
  [[255, 253, 252, 255, 255, 255]],
  [[681, 683, 23, 88, 684, 349, 81, 350]],
  [[255, 253, 252, 255]],
  [[97, 98, 99, 100, 101, 82, 103, 82, 104, 276, 100, 101, 82, 103, 82, 104, 277, 151, 152, 84, 153, 154, 84, 155, 278, 171, 172, 85, 174, 85, 175, 279, 202, 203, 86], [205, 86, 206, 280, 232, 233, 87, 235, 87, 236, 281, 245, 246, 88, 248, 88, 249, 282, 283, 284, 285]],
  [[277, 276, 311, 312, 313, 82, 314, 276, 323, 324, 325, 82, 326, 327, 329, 1, 81, 330]],
  [[276, 344, 345, 346, 82, 347, 348, 349, 81, 350, 331, 333, 2, 81, 334, 278, 276, 335, 336, 337, 84, 338, 276, 140, 276, 140], [351, 352, 81, 353, 276, 140]],
  [[277, 276, 311, 312, 313, 82, 314, 276, 364, 365, 366, 82, 367, 327, 329, 1, 81, 330]],
  [[277, 276, 311, 312, 313, 82, 314, 281, 276, 381, 382, 383, 87, 384, 327, 329, 1, 81, 330]],
  [[276, 344, 345, 346, 82, 347, 348, 349, 81, 350, 348, 349, 81, 350, 331, 333, 2, 81, 334, 276, 140], [357, 358, 81, 359]],
  [[276, 344, 345, 346, 82, 347, 348, 349, 81, 350, 331, 333, 2, 81, 334, 432, 434, 8, 81, 435, 485, 486, 487, 85, 488, 432, 434, 8, 81, 435, 493, 490, 491, 85, 492], [432, 434, 8, 81, 435, 188, 276, 143, 494, 495, 496, 83, 497, 276, 143, 498, 499, 500, 83, 501]],
  [[276, 344, 345, 346, 82, 347, 348, 349, 81, 350, 331, 333, 2, 81, 334, 432, 434, 8, 81, 435, 182]],
  [[276, 344, 345, 346, 82, 347, 348, 349, 81, 350, 276, 344, 345, 346, 82, 347, 348, 349, 81, 350, 331, 333, 2, 81, 334], [432, 434, 8, 81, 435, 184]],
  [[276, 344, 345, 346, 82, 347, 348, 349, 81, 350, 331, 333, 2, 81, 334, 432, 434, 8, 81, 435, 515, 467, 468, 85, 469], [331, 333, 2, 81, 334, 432, 434, 8, 81, 435, 186]],
  [[331, 333, 2, 81, 334, 432, 434, 8, 81, 435, 520, 521, 522, 85, 523, 432, 434, 8, 81, 435, 524, 525, 526, 85, 527]],
  [[432, 434, 8, 81, 435, 532, 533, 534, 85, 535]],
  [[540, 393, 81, 394, 331, 333, 2, 81, 334, 432, 434, 8, 81, 435, 541, 542, 543, 85, 544]],
  [[389, 390, 81, 391, 389, 390, 81, 391, 540, 393, 81, 394, 540, 393, 81, 394, 331, 333, 2, 81, 334, 348, 349, 81, 350], [331, 333, 2, 81, 334, 276, 136, 276, 136, 331, 333, 2, 81, 334, 280], [432, 434, 8, 81, 435, 556, 557, 558, 86, 559, 280], [217, 280, 215, 123]],
  [[277, 276, 311, 312, 313, 82, 314, 276, 592, 593, 594, 82, 595, 327, 329, 1, 81, 330]],
  [[277, 276, 311, 312, 313, 82, 314, 606, 608, 19, 81, 609, 327, 329, 1, 81, 330]],
  [[277, 276, 311, 312, 313, 82, 314, 276, 619, 620, 621, 82, 622, 327, 329, 1, 81, 330]],
  [[276, 143, 610, 611, 612, 83, 613, 331, 333, 2, 81, 334, 276, 143, 123]],
  [[432, 434, 8, 81, 435, 276, 143, 632, 633, 634, 85, 635]],
  [[540, 393, 81, 394, 348, 349, 81, 350, 331, 333, 2, 81, 334, 279, 276, 436, 437, 438, 85, 439], [276, 143, 642, 374, 375, 83, 376, 276, 143, 643, 644, 645, 83, 646, 649, 651, 20, 81, 652], [279, 276, 143, 614, 567, 568, 85, 569], []],
  [[348, 349, 81, 350, 331, 333, 2, 81, 334, 282, 254, 331, 333, 2, 81, 334, 282, 657, 658, 659, 88, 660, 282, 254]],
  [[282, 254, 282, 254]],
  [[282, 669, 670, 671, 88, 672, 277, 276, 311, 312, 313, 82, 314, 282, 257], [701, 703, 27, 81, 704, 276, 277, 311, 312, 313, 82, 314, 278, 277, 335, 336, 337, 84, 338, 282, 257]],
  [[278, 163, 331, 333, 2, 81, 334, 278, 276, 709, 710, 711, 84, 712, 278, 163]],
  [[283, 284, 285, 282, 254, 276, 136, 276, 143, 117], [276, 143, 119, 278, 163, 331, 333, 2, 81, 334]],
  [[721, 722, 723, 714, 715, 81, 716, 276, 136], [722, 276, 140, 722, 724, 429, 430, 81, 431], [276, 143, 642, 374, 375, 83, 376, 722, 725, 625, 626, 81, 627, 722], [726, 629, 630, 81, 631, 722, 727, 517, 518, 81, 519, 722, 728, 529, 530, 81, 531, 722], [729, 537, 538, 81, 539, 722, 729, 537, 538, 81, 539]],
  [[283, 283, 284, 284], [285, 285]],
  [[331, 333, 2, 81, 334, 278, 277, 335, 336, 337, 84, 338]],
  [[279, 276, 436, 437, 438, 85, 439, 279]],
  [[276, 143, 610, 611, 612, 83, 613, 276, 344, 345, 346, 82, 347, 348, 349, 81, 350, 276, 143, 123], [276, 143, 494, 495, 496, 83, 497, 432, 434, 8, 81, 435, 276, 143, 614, 567, 568, 85, 569], [276, 143, 123]],
  [[276, 136, 276, 143, 494, 495, 496, 83, 497, 279], [276, 143, 614, 567, 568, 85, 569]],
  [[282, 261, 282, 259, 276, 323, 324, 325, 82, 326, 276], [592, 593, 594, 82, 595, 606, 608, 19, 81, 609, 276, 619, 620, 621, 82, 622, 281], [276, 381, 382, 383, 87, 384]],
  [[]],
  [[]],
  [[]],
  [[389, 390, 81, 391, 389, 390, 81, 391]],
  [[]],
  [[354, 355, 81, 356]],
  [[357, 358, 81, 359], []],
  [[]],
  [[735, 98, 99, 132, 740, 132, 741, 132, 743, 132, 744, 132, 745, 132], [746, 132, 747, 132, 748, 132, 750, 132, 751, 132, 754, 132, 756], [736, 738, 28, 89, 739]],
  [[]],
  [[743]],
  [[742, 741, 741, 742], [742, 741, 742, 740, 742], [742]],
  [[740]],
  [[740]],
  [[740]],
  [[740]],
  [[925, 927, 49, 89, 928, 929, 931, 50, 89, 932]],
  [[740]],
  [[796, 798, 29, 89, 799, 820, 821, 89, 822]],
  [[921, 923, 48, 89, 924, 820, 821, 89, 822]],
  [[740, 740, 740]],
  [[]],
  [[834, 835, 89, 836], []],
  [[831, 832, 89, 833]],
  [[796, 798, 29, 89, 799, 740, 740]],
  [[796, 798, 29, 89, 799, 800, 802, 30, 89, 803, 804, 806, 31, 89, 807, 808, 810, 32, 89, 811]],
  [[816, 818, 33, 89, 819, 823, 820, 821, 89, 822, 800, 802, 30, 89, 803, 804, 806, 31, 89, 807, 740, 824, 826, 34, 89, 827], [828, 829, 89, 830, 824, 826, 34, 89, 827]],
  [[816, 818, 33, 89, 819, 800, 802, 30, 89, 803, 804, 806, 31, 89, 807, 740, 796, 798, 29, 89, 799], [740, 740, 841, 843, 35, 89, 844], [740], [796, 798, 29, 89, 799]],
  [[862, 863, 864]],
  [[853, 820, 821, 89, 822, 854, 820, 821, 89, 822, 854, 820, 821, 89, 822], [820, 821, 89, 822]],
  [[], [744], [859, 860, 89, 861, 744, 865, 823, 740], [], [744, 740], [859, 860, 89, 861, 865], [740, 740, 740, 740], [859, 860, 89, 861, 740], [824, 826, 34, 89, 827, 865, 866, 828, 829, 89, 830, 736, 738, 28, 89, 739]],
  [[849, 851, 36, 89, 852, 800, 802, 30, 89, 803, 804, 806, 31, 89, 807, 855, 857, 37, 89, 858]],
  [[816, 818, 33, 89, 819, 823, 820, 821, 89, 822, 823, 820, 821, 89, 822, 824, 826, 34, 89, 827, 834, 835, 89, 836], [800, 802, 30, 89, 803]],
  [[834, 835, 89, 836, 834, 835, 89, 836, 834, 835, 89, 836, 834, 835, 89, 836], []],
  [[894, 895, 89, 896]],
  [[]],
  [[824, 826, 34, 89, 827, 891, 892, 89, 893]],
  [[887, 889, 41, 89, 890]],
  [[883, 885, 40, 89, 886], []],
  [[824, 826, 34, 89, 827, 894, 895, 89, 896, 824, 826, 34, 89, 827, 894, 895, 89, 896], []],
  [[796, 798, 29, 89, 799, 887, 889, 41, 89, 890], [909, 911, 45, 89, 912], []],
  [[796, 798, 29, 89, 799, 745, 887, 889, 41, 89, 890], [905, 907, 44, 89, 908]],
  [[745, 745, 745]],
  [[901, 903, 43, 89, 904, 796, 798, 29, 89, 799, 746], [796, 798, 29, 89, 799, 913, 915, 46, 89, 916, 745, 746, 746], [746, 746]],
  [[921, 923, 48, 89, 924, 841, 843, 35, 89, 844, 841, 843, 35, 89, 844]],
  [[879, 881, 39, 89, 882, 883, 885, 40, 89, 886, 897, 899, 42, 89, 900, 746], [917, 919, 47, 89, 920, 841, 843, 35, 89, 844]],
  [[816, 818, 33, 89, 819, 866, 820, 821, 89, 822, 875, 877, 38, 89, 878, 800, 802, 30, 89, 803]],
  [[823, 820, 821, 89, 822]],
  [[816, 818, 33, 89, 819, 937, 938, 89, 939, 824, 826, 34, 89, 827, 891, 892, 89, 893, 800, 802, 30, 89, 803]],
  [[816, 818, 33, 89, 819, 937, 938, 89, 939, 816, 818, 33, 89, 819, 937, 938, 89, 939, 909, 911, 45, 89, 912], [800, 802, 30, 89, 803]],
  [[816, 818, 33, 89, 819, 937, 938, 89, 939, 800, 802, 30, 89, 803, 887, 889, 41, 89, 890, 800, 802, 30, 89, 803, 905, 907, 44, 89, 908]],
  [[901, 903, 43, 89, 904, 796, 798, 29, 89, 799, 913, 915, 46, 89, 916, 745], [745]],
  [[800, 802, 30, 89, 803, 952, 954, 51, 89, 955]],
  [[897, 899, 42, 89, 900, 796, 798, 29, 89, 799, 746], []],
  [[824, 826, 34, 89, 827, 891, 892, 89, 893, 972, 973, 89, 974, 972, 973, 89, 974]],
  [[796, 798, 29, 89, 799, 968, 970, 53, 89, 971], [968, 970, 53, 89, 971]],
  [[820, 821, 89, 822, 964, 966, 52, 89, 967, 800, 802, 30, 89, 803]],
  [[]],
  [[992, 993, 89, 994, 992, 993, 89, 994, 909, 911, 45, 89, 912]],
  [[], [], [992, 993, 89, 994, 887, 889, 41, 89, 890]],
  [[747]],
  [[747, 999, 1001, 58, 89, 1002], [747, 999, 1001, 58, 89, 1002]],
  [[749, 750, 747, 747], [747], [984, 986, 55, 89, 987, 988, 990, 56, 89, 991, 750, 995, 997, 57, 89, 998], [749, 749, 748, 747], [749, 750, 747, 749], []],
  [[854, 820, 821, 89, 822, 854, 820, 821, 89, 822, 820, 821, 89, 822, 820, 821, 89, 822], [979, 820, 821, 89, 822, 800, 802, 30, 89, 803, 796, 798, 29, 89, 799, 796, 798, 29, 89, 799], [800, 802, 30, 89, 803, 980, 982, 54, 89, 983, 749, 748], []],
  [[921, 923, 48, 89, 924, 841, 843, 35, 89, 844]],
  [[854, 820, 821, 89, 822, 854, 820, 821, 89, 822]],
  [[1014, 1016, 60, 89, 1017, 736, 738, 28, 89, 739]],
  [[1007, 1008, 89, 1009, 800, 802, 30, 89, 803, 804, 806, 31, 89, 807, 1010, 1012, 59, 89, 1013]],
  [[925, 927, 49, 89, 928, 925, 927, 49, 89, 928, 925, 927, 49, 89, 928], [925, 927, 49, 89, 928, 929, 931, 50, 89, 932, 925, 927, 49, 89, 928], [925, 927, 49, 89, 928, 925, 927, 49, 89, 928], []],
  [[1038, 1040, 65, 89, 1041, 841, 843, 35, 89, 844], [841, 843, 35, 89, 844, 999, 1001, 58, 89, 1002]],
  [[1026, 1028, 62, 89, 1029, 816, 818, 33, 89, 819, 823, 820, 821, 89, 822, 841, 843, 35, 89, 844, 917, 919, 47, 89, 920], []],
  [[1034, 1036, 64, 89, 1037, 740]],
  [[1022, 1024, 61, 89, 1025, 800, 802, 30, 89, 803, 804, 806, 31, 89, 807, 1030, 1032, 63, 89, 1033]],
  [[1026, 1028, 62, 89, 1029, 841, 843, 35, 89, 844]],
  [[841, 843, 35, 89, 844, 740]],
  [[1046, 1048, 66, 89, 1049, 800, 802, 30, 89, 803, 804, 806, 31, 89, 807, 1050, 1052, 67, 89, 1053]],
  [[1026, 1028, 62, 89, 1029, 841, 843, 35, 89, 844, 800, 802, 30, 89, 803]],
  [[921, 923, 48, 89, 924, 841, 843, 35, 89, 844, 1038, 1040, 65, 89, 1041], [841, 843, 35, 89, 844, 841, 843, 35, 89, 844, 841, 843, 35, 89, 844, 999, 1001, 58, 89, 1002]],
  [[1062, 1064, 68, 89, 1065]],
  [[1014, 1016, 60, 89, 1017, 1038, 1040, 65, 89, 1041, 841, 843, 35, 89, 844], [841, 843, 35, 89, 844]],
  [[921, 923, 48, 89, 924, 796, 798, 29, 89, 799, 1075, 1077, 70, 89, 1078], [917, 919, 47, 89, 920, 1034, 1036, 64, 89, 1037], [], []],
  [[820, 821, 89, 822, 1070, 820, 821, 89, 822, 1071, 1073, 69, 89, 1074, 800, 802, 30, 89, 803]],
  [[1083, 820, 821, 89, 822, 800, 802, 30, 89, 803, 752, 800, 802, 30, 89, 803, 751, 752], [752, 752, 752]],
  [[752, 752]],
  [[753, 752, 751, 753, 753, 753, 753, 752], [751, 753]],
  [[753, 752, 751, 753, 1107, 1117, 820, 821, 89, 822]],
  [[1096, 1098, 72, 89, 1099, 754, 1113, 1115, 75, 89, 1116, 754, 754], [751, 753, 753, 753, 1113, 1115, 75, 89, 1116], []],
  [[1096, 1098, 72, 89, 1099, 1107, 1108, 820, 821, 89, 822], [753, 753, 754]],
  [[]],
  [[796, 798, 29, 89, 799, 754, 754, 1007, 1008, 89, 1009, 754], [754, 754, 1022, 1024, 61, 89, 1025, 754, 1046, 1048, 66, 89, 1049, 754, 754], [754, 754, 849, 851, 36, 89, 852]],
  [[754, 754, 808, 810, 32, 89, 811, 1010, 1012, 59, 89, 1013], [754, 1030, 1032, 63, 89, 1033, 1050, 1052, 67, 89, 1053, 754], [754, 855, 857, 37, 89, 858]],
  [[1096, 1098, 72, 89, 1099, 1100, 1101, 89, 1102, 753, 753, 1103, 1105, 73, 89, 1106], [1109, 1111, 74, 89, 1112, 1096, 1098, 72, 89, 1099, 753], [753, 1118, 1120, 76, 89, 1121, 755, 755, 1122, 1124, 77, 89, 1125]],
  [[740, 740, 756, 756], []],
  [[753, 1092, 1094, 71, 89, 1095, 1096, 1098, 72, 89, 1099, 1092, 1094, 71, 89, 1095, 753], [756, 740, 753, 1096, 1098, 72, 89, 1099], [1092, 1094, 71, 89, 1095, 755, 1126, 1128, 78, 89, 1129, 1126, 1128, 78, 89, 1129, 804, 806, 31, 89, 807, 1126, 1128, 78, 89, 1129]],
  [[742, 800, 802, 30, 89, 803, 742, 742, 740, 741], [742, 742]],
  [[752, 796, 798, 29, 89, 799, 925, 927, 49, 89, 928, 929, 931, 50, 89, 932, 742, 743]],
  [[1138, 820, 821, 89, 822, 1139, 1141, 79, 89, 1142, 800, 802, 30, 89, 803]],
  [[1147, 1148, 1139, 1141, 79, 89, 1142, 796, 798, 29, 89, 799, 1148], [824, 826, 34, 89, 827, 1148, 875, 877, 38, 89, 878], [921, 923, 48, 89, 924, 1148, 841, 843, 35, 89, 844, 1148, 1148, 1062, 1064, 68, 89, 1065], [952, 954, 51, 89, 955, 1148, 1148, 1148, 1149, 957, 958, 89, 959, 964, 966, 52, 89, 967], [964, 966, 52, 89, 967]],
  [[92, 93, 81, 94, 95, 81, 96, 730, 731, 89, 732, 733, 89, 734], [307, 308, 309, 81, 310, 792, 793, 794, 89, 795], [340, 341, 342, 81, 343, 812, 813, 814, 89, 815, 360, 361, 362, 81, 363], [837, 838, 839, 89, 840], [377, 378, 379, 81, 380], [845, 846, 847, 89, 848, 424, 425, 426, 81, 427], [867, 868, 869, 89, 870], [428, 429, 430, 81, 431, 871, 872, 873, 89, 874], [503, 504, 505, 81, 506, 933, 934, 935, 89, 936], [507, 508, 509, 81, 510], [940, 941, 942, 89, 943], [511, 512, 513, 81, 514, 944, 945, 946, 89, 947], [516, 517, 518, 81, 519, 948, 949, 950, 89, 951, 528, 529, 530, 81, 531, 956, 957, 958, 89, 959], [536, 537, 538, 81, 539, 960, 961, 962, 89, 963], [552, 553, 554, 81, 555], [975, 976, 977, 89, 978], [588, 589, 590, 81, 591, 1003, 1004, 1005, 89, 1006], [602, 603, 604, 81, 605], [1018, 1019, 1020, 89, 1021, 615, 616, 617, 81, 618, 1042, 1043, 1044, 89, 1045], [624, 625, 626, 81, 627, 1054, 1055, 1056, 89, 1057, 628, 629, 630, 81, 631, 1058, 1059, 1060, 89, 1061], [638, 639, 640, 81, 641, 1066, 1067, 1068, 89, 1069], [653, 654, 655, 81, 656, 1079, 1080, 1081, 89, 1082, 661, 662, 663, 81, 664, 1084, 1085, 1086, 89, 1087], [665, 666, 667, 81, 668, 1088, 1089, 1090, 89, 1091, 705, 706, 707, 81, 708, 1130, 1131, 1132, 89, 1133, 713, 714, 715, 81, 716], [1134, 1135, 1136, 89, 1137, 717, 718, 719, 81, 720, 1143, 1144, 1145, 89, 1146]]]
noncomputable def zPosC : List Nat := [206, 559, 563, 584, 155, 338, 712, 236, 384, 402, 398, 410, 414, 418, 110, 115, 423, 321, 376, 613, 573, 497, 501, 600, 646, 372, 175, 439, 443, 448, 455, 458, 465, 473, 481, 469, 492, 488, 477, 523, 527, 535, 544, 548, 551, 577, 569, 635, 104, 314, 347, 326, 367, 595, 622, 249, 660, 672, 680, 687, 691, 696, 676, 700, 684, 96, 310, 343, 363, 380, 427, 431, 506, 510, 514, 519, 531, 539, 555, 591, 605, 618, 627, 631, 641, 656, 664, 668, 708, 716, 720, 334, 330, 435, 609, 652, 704, 350, 394, 391, 388, 359, 353, 356, 580, 734, 822, 803, 807, 799, 827, 928, 932, 924, 844, 819, 1029, 739, 836, 833, 830, 811, 795, 815, 840, 861, 852, 858, 848, 870, 896, 893, 974, 890, 886, 882, 912, 908, 904, 916, 900, 920, 878, 874, 939, 936, 943, 947, 955, 951, 959, 971, 967, 963, 994, 1002, 991, 987, 998, 983, 978, 1017, 1009, 1013, 1006, 1041, 1037, 1025, 1033, 1021, 1049, 1053, 1045, 1057, 1065, 1061, 1078, 1074, 1069, 1082, 1087, 1099, 1116, 1112, 1106, 1102, 1121, 1125, 1095, 1129, 1091, 1133, 1142, 1137, 1146]
noncomputable def zchunk (y k : Nat) : List (Nat × zP) := ((zC y).drop (25 * k)).take 25
noncomputable def zck (y k : Nat) : Bool := (zchunk y k).all (fun q => decide (decode (zM_ y).2.1 q.1 = .ok (q.2.1, q.2.2.1)) && zON y q.1 q.2 && (zLN (zM_ y).1.cls q.2).all (fun w => decide (w ∈ zNest)))
noncomputable def zgd (y k : Nat) : Bool := ((zPos.getD y []).getD k []).all (fun i => match lw_tbl[i]? with
  | some w => goodWord w
  | none => false)
def zok (y k : Nat) : Prop := zck y k = true ∧ zgd y k = true ∧ ((zchunk y k).flatMap (fun q => zLW (zM_ y).1.cls q.2)).map some = ((zPos.getD y []).getD k []).map (fun i => lw_tbl[i]?)
set_option maxRecDepth 100000 in
theorem zg_0 : ∀ y, y < 2 → ∀ k, k < 2 → zok (0 + y) k := by unfold zok; decide +kernel
set_option maxRecDepth 100000 in
theorem zg_1 : ∀ y, y < 1 → ∀ k, k < 4 → zok (2 + y) k := by unfold zok; decide +kernel
set_option maxRecDepth 100000 in
theorem zg_2 : ∀ y, y < 3 → ∀ k, k < 2 → zok (3 + y) k := by unfold zok; decide +kernel
set_option maxRecDepth 100000 in
theorem zg_3 : ∀ y, y < 2 → ∀ k, k < 1 → zok (6 + y) k := by unfold zok; decide +kernel
set_option maxRecDepth 100000 in
theorem zg_4 : ∀ y, y < 2 → ∀ k, k < 4 → zok (8 + y) k := by unfold zok; decide +kernel
set_option maxRecDepth 100000 in
theorem zg_5 : ∀ y, y < 2 → ∀ k, k < 3 → zok (10 + y) k := by unfold zok; decide +kernel
set_option maxRecDepth 100000 in
theorem zg_6 : ∀ y, y < 5 → ∀ k, k < 2 → zok (12 + y) k := by unfold zok; decide +kernel
set_option maxRecDepth 100000 in
theorem zg_7 : ∀ y, y < 4 → ∀ k, k < 3 → zok (17 + y) k := by unfold zok; decide +kernel
set_option maxRecDepth 100000 in
theorem zg_8 : ∀ y, y < 4 → ∀ k, k < 2 → zok (21 + y) k := by unfold zok; decide +kernel
set_option maxRecDepth 100000 in
theorem zg_9 : ∀ y, y < 2 → ∀ k, k < 3 → zok (25 + y) k := by unfold zok; decide +kernel
set_option maxRecDepth 100000 in
theorem zg_10 : ∀ y, y < 2 → ∀ k, k < 2 → zok (27 + y) k := by unfold zok; decide +kernel
set_option maxRecDepth 100000 in
theorem zg_11 : ∀ y, y < 2 → ∀ k, k < 2 → zok (29 + y) k := by unfold zok; decide +kernel
set_option maxRecDepth 100000 in
theorem zg_12 : ∀ y, y < 2 → ∀ k, k < 3 → zok (31 + y) k := by unfold zok; decide +kernel
set_option maxRecDepth 100000 in
theorem zg_13 : ∀ y, y < 3 → ∀ k, k < 2 → zok (33 + y) k := by unfold zok; decide +kernel
set_option maxRecDepth 100000 in
theorem zg_14 : ∀ y, y < 4 → ∀ k, k < 2 → zok (36 + y) k := by unfold zok; decide +kernel
set_option maxRecDepth 100000 in
theorem zg_15 : ∀ y, y < 3 → ∀ k, k < 2 → zok (40 + y) k := by unfold zok; decide +kernel
set_option maxRecDepth 100000 in
theorem zg_16 : ∀ y, y < 3 → ∀ k, k < 2 → zok (43 + y) k := by unfold zok; decide +kernel
set_option maxRecDepth 100000 in
theorem zg_17 : ∀ y, y < 4 → ∀ k, k < 2 → zok (46 + y) k := by unfold zok; decide +kernel
set_option maxRecDepth 100000 in
theorem zg_18 : ∀ y, y < 4 → ∀ k, k < 2 → zok (50 + y) k := by unfold zok; decide +kernel
set_option maxRecDepth 100000 in
theorem zg_19 : ∀ y, y < 3 → ∀ k, k < 2 → zok (54 + y) k := by unfold zok; decide +kernel
set_option maxRecDepth 100000 in
theorem zg_20 : ∀ y, y < 2 → ∀ k, k < 3 → zok (57 + y) k := by unfold zok; decide +kernel
set_option maxRecDepth 100000 in
theorem zg_21 : ∀ y, y < 2 → ∀ k, k < 2 → zok (59 + y) k := by unfold zok; decide +kernel
set_option maxRecDepth 100000 in
theorem zg_22 : ∀ y, y < 4 → ∀ k, k < 3 → zok (61 + y) k := by unfold zok; decide +kernel
set_option maxRecDepth 100000 in
theorem zg_23 : ∀ y, y < 3 → ∀ k, k < 2 → zok (65 + y) k := by unfold zok; decide +kernel
set_option maxRecDepth 100000 in
theorem zg_24 : ∀ y, y < 3 → ∀ k, k < 2 → zok (68 + y) k := by unfold zok; decide +kernel
set_option maxRecDepth 100000 in
theorem zg_25 : ∀ y, y < 2 → ∀ k, k < 2 → zok (71 + y) k := by unfold zok; decide +kernel
set_option maxRecDepth 100000 in
theorem zg_26 : ∀ y, y < 4 → ∀ k, k < 2 → zok (73 + y) k := by unfold zok; decide +kernel
set_option maxRecDepth 100000 in
theorem zg_27 : ∀ y, y < 1 → ∀ k, k < 1 → zok (77 + y) k := by unfold zok; decide +kernel
set_option maxRecDepth 100000 in
theorem zg_28 : ∀ y, y < 2 → ∀ k, k < 4 → zok (78 + y) k := by unfold zok; decide +kernel
set_option maxRecDepth 100000 in
theorem zg_29 : ∀ y, y < 4 → ∀ k, k < 1 → zok (80 + y) k := by unfold zok; decide +kernel
set_option maxRecDepth 100000 in
theorem zg_30 : ∀ y, y < 1 → ∀ k, k < 4 → zok (84 + y) k := by unfold zok; decide +kernel
set_option maxRecDepth 100000 in
theorem zg_31 : ∀ y, y < 4 → ∀ k, k < 2 → zok (85 + y) k := by unfold zok; decide +kernel
set_option maxRecDepth 100000 in
theorem zg_32 : ∀ y, y < 1 → ∀ k, k < 2 → zok (89 + y) k := by unfold zok; decide +kernel
set_option maxRecDepth 100000 in
theorem zg_33 : ∀ y, y < 1 → ∀ k, k < 5 → zok (90 + y) k := by unfold zok; decide +kernel
set_option maxRecDepth 100000 in
theorem zg_34 : ∀ y, y < 3 → ∀ k, k < 2 → zok (91 + y) k := by unfold zok; decide +kernel
set_option maxRecDepth 100000 in
theorem zg_35 : ∀ y, y < 1 → ∀ k, k < 3 → zok (94 + y) k := by unfold zok; decide +kernel
set_option maxRecDepth 100000 in
theorem zg_36 : ∀ y, y < 1 → ∀ k, k < 2 → zok (95 + y) k := by unfold zok; decide +kernel
set_option maxRecDepth 100000 in
theorem zg_37 : ∀ y, y < 4 → ∀ k, k < 3 → zok (96 + y) k := by unfold zok; decide +kernel
set_option maxRecDepth 100000 in
theorem zg_38 : ∀ y, y < 5 → ∀ k, k < 2 → zok (100 + y) k := by unfold zok; decide +kernel
set_option maxRecDepth 100000 in
theorem zg_39 : ∀ y, y < 3 → ∀ k, k < 3 → zok (105 + y) k := by unfold zok; decide +kernel
set_option maxRecDepth 100000 in
theorem zg_40 : ∀ y, y < 8 → ∀ k, k < 3 → zok (108 + y) k := by unfold zok; decide +kernel
set_option maxRecDepth 100000 in
theorem zg_41 : ∀ y, y < 5 → ∀ k, k < 2 → zok (116 + y) k := by unfold zok; decide +kernel
set_option maxRecDepth 100000 in
theorem zg_42 : ∀ y, y < 3 → ∀ k, k < 2 → zok (121 + y) k := by unfold zok; decide +kernel
set_option maxRecDepth 100000 in
theorem zg_43 : ∀ y, y < 2 → ∀ k, k < 4 → zok (124 + y) k := by unfold zok; decide +kernel
set_option maxRecDepth 100000 in
theorem zg_44 : ∀ y, y < 1 → ∀ k, k < 2 → zok (126 + y) k := by unfold zok; decide +kernel
set_option maxRecDepth 100000 in
theorem zg_45 : ∀ y, y < 1 → ∀ k, k < 9 → zok (127 + y) k := by unfold zok; decide +kernel
set_option maxRecDepth 100000 in
theorem zg_46 : ∀ y, y < 4 → ∀ k, k < 2 → zok (128 + y) k := by unfold zok; decide +kernel
set_option maxRecDepth 100000 in
theorem zg_47 : ∀ y, y < 4 → ∀ k, k < 2 → zok (132 + y) k := by unfold zok; decide +kernel
set_option maxRecDepth 100000 in
theorem zg_48 : ∀ y, y < 2 → ∀ k, k < 3 → zok (136 + y) k := by unfold zok; decide +kernel
set_option maxRecDepth 100000 in
theorem zg_49 : ∀ y, y < 2 → ∀ k, k < 2 → zok (138 + y) k := by unfold zok; decide +kernel
set_option maxRecDepth 100000 in
theorem zg_50 : ∀ y, y < 2 → ∀ k, k < 3 → zok (140 + y) k := by unfold zok; decide +kernel
set_option maxRecDepth 100000 in
theorem zg_51 : ∀ y, y < 4 → ∀ k, k < 2 → zok (142 + y) k := by unfold zok; decide +kernel
set_option maxRecDepth 100000 in
theorem zg_52 : ∀ y, y < 3 → ∀ k, k < 2 → zok (146 + y) k := by unfold zok; decide +kernel
set_option maxRecDepth 100000 in
theorem zg_53 : ∀ y, y < 3 → ∀ k, k < 2 → zok (149 + y) k := by unfold zok; decide +kernel
set_option maxRecDepth 100000 in
theorem zg_54 : ∀ y, y < 4 → ∀ k, k < 2 → zok (152 + y) k := by unfold zok; decide +kernel
set_option maxRecDepth 100000 in
theorem zg_55 : ∀ y, y < 2 → ∀ k, k < 3 → zok (156 + y) k := by unfold zok; decide +kernel
set_option maxRecDepth 100000 in
theorem zg_56 : ∀ y, y < 1 → ∀ k, k < 2 → zok (158 + y) k := by unfold zok; decide +kernel
set_option maxRecDepth 100000 in
theorem zg_57 : ∀ y, y < 1 → ∀ k, k < 6 → zok (159 + y) k := by unfold zok; decide +kernel
set_option maxRecDepth 100000 in
theorem zg_58 : ∀ y, y < 2 → ∀ k, k < 4 → zok (160 + y) k := by unfold zok; decide +kernel
set_option maxRecDepth 100000 in
theorem zg_59 : ∀ y, y < 3 → ∀ k, k < 1 → zok (162 + y) k := by unfold zok; decide +kernel
set_option maxRecDepth 100000 in
theorem zg_60 : ∀ y, y < 1 → ∀ k, k < 4 → zok (165 + y) k := by unfold zok; decide +kernel
set_option maxRecDepth 100000 in
theorem zg_61 : ∀ y, y < 3 → ∀ k, k < 2 → zok (166 + y) k := by unfold zok; decide +kernel
set_option maxRecDepth 100000 in
theorem zg_62 : ∀ y, y < 5 → ∀ k, k < 1 → zok (169 + y) k := by unfold zok; decide +kernel
set_option maxRecDepth 100000 in
theorem zg_63 : ∀ y, y < 3 → ∀ k, k < 2 → zok (174 + y) k := by unfold zok; decide +kernel
set_option maxRecDepth 100000 in
theorem zg_64 : ∀ y, y < 1 → ∀ k, k < 4 → zok (177 + y) k := by unfold zok; decide +kernel
set_option maxRecDepth 100000 in
theorem zg_65 : ∀ y, y < 4 → ∀ k, k < 2 → zok (178 + y) k := by unfold zok; decide +kernel
set_option maxRecDepth 100000 in
theorem zg_66 : ∀ y, y < 2 → ∀ k, k < 3 → zok (182 + y) k := by unfold zok; decide +kernel
set_option maxRecDepth 100000 in
theorem zg_67 : ∀ y, y < 2 → ∀ k, k < 2 → zok (184 + y) k := by unfold zok; decide +kernel
set_option maxRecDepth 100000 in
theorem zg_68 : ∀ y, y < 1 → ∀ k, k < 3 → zok (186 + y) k := by unfold zok; decide +kernel
set_option maxRecDepth 100000 in
theorem zg_69 : ∀ y, y < 1 → ∀ k, k < 3 → zok (187 + y) k := by unfold zok; decide +kernel
set_option maxRecDepth 100000 in
theorem zg_70 : ∀ y, y < 2 → ∀ k, k < 3 → zok (188 + y) k := by unfold zok; decide +kernel
set_option maxRecDepth 100000 in
theorem zg_71 : ∀ y, y < 1 → ∀ k, k < 3 → zok (190 + y) k := by unfold zok; decide +kernel
set_option maxRecDepth 100000 in
theorem zg_72 : ∀ y, y < 3 → ∀ k, k < 2 → zok (191 + y) k := by unfold zok; decide +kernel
set_option maxRecDepth 100000 in
theorem zg_73 : ∀ y, y < 1 → ∀ k, k < 5 → zok (194 + y) k := by unfold zok; decide +kernel
set_option maxRecDepth 100000 in
theorem zgl_0 : zok 195 0 := by unfold zok; decide +kernel
set_option maxRecDepth 100000 in
theorem zgl_1 : zok 195 1 := by unfold zok; decide +kernel
set_option maxRecDepth 100000 in
theorem zgl_2 : zok 195 2 := by unfold zok; decide +kernel
set_option maxRecDepth 100000 in
theorem zgl_3 : zok 195 3 := by unfold zok; decide +kernel
set_option maxRecDepth 100000 in
theorem zgl_4 : zok 195 4 := by unfold zok; decide +kernel
set_option maxRecDepth 100000 in
theorem zgl_5 : zok 195 5 := by unfold zok; decide +kernel
set_option maxRecDepth 100000 in
theorem zgl_6 : zok 195 6 := by unfold zok; decide +kernel
set_option maxRecDepth 100000 in
theorem zgl_7 : zok 195 7 := by unfold zok; decide +kernel
set_option maxRecDepth 100000 in
theorem zgl_8 : zok 195 8 := by unfold zok; decide +kernel
set_option maxRecDepth 100000 in
theorem zgl_9 : zok 195 9 := by unfold zok; decide +kernel
set_option maxRecDepth 100000 in
theorem zgl_10 : zok 195 10 := by unfold zok; decide +kernel
set_option maxRecDepth 100000 in
theorem zgl_11 : zok 195 11 := by unfold zok; decide +kernel
set_option maxRecDepth 100000 in
theorem zgl_12 : zok 195 12 := by unfold zok; decide +kernel
set_option maxRecDepth 100000 in
theorem zgl_13 : zok 195 13 := by unfold zok; decide +kernel
set_option maxRecDepth 100000 in
theorem zgl_14 : zok 195 14 := by unfold zok; decide +kernel
set_option maxRecDepth 100000 in
theorem zgl_15 : zok 195 15 := by unfold zok; decide +kernel
set_option maxRecDepth 100000 in
theorem zgl_16 : zok 195 16 := by unfold zok; decide +kernel
set_option maxRecDepth 100000 in
theorem zgl_17 : zok 195 17 := by unfold zok; decide +kernel
set_option maxRecDepth 100000 in
theorem zgl_18 : zok 195 18 := by unfold zok; decide +kernel
set_option maxRecDepth 100000 in
theorem zgl_19 : zok 195 19 := by unfold zok; decide +kernel
set_option maxRecDepth 100000 in
theorem zgl_20 : zok 195 20 := by unfold zok; decide +kernel
set_option maxRecDepth 100000 in
theorem zgl_21 : zok 195 21 := by unfold zok; decide +kernel
set_option maxRecDepth 100000 in
theorem zgl_22 : zok 195 22 := by unfold zok; decide +kernel
set_option maxRecDepth 100000 in
theorem zgl_23 : zok 195 23 := by unfold zok; decide +kernel
set_option maxRecDepth 100000 in
theorem zlens : ∀ y, y < 196 → (zC y).length ≤ 600 := by decide +kernel
/-- no more chunks than instructions need -/
noncomputable def zKs : List Nat := [2, 2, 4, 2, 2, 2, 1, 1, 4, 4, 3, 3, 2, 2, 2, 2, 2, 3, 3, 3, 3, 2, 2, 2, 2, 3, 3, 2, 2, 2, 2, 3, 3, 2, 2, 2, 2, 2, 2, 2, 2, 2, 2, 2, 2, 2, 2, 2, 2, 2, 2, 2, 2, 2, 2, 2, 2, 3, 3, 2, 2, 3, 3, 3, 3, 2, 2, 2, 2, 2, 2, 2, 2, 2, 2, 2, 2, 1, 4, 4, 1, 1, 1, 1, 4, 2, 2, 2, 2, 2, 5, 2, 2, 2, 3, 2, 3, 3, 3, 3, 2, 2, 2, 2, 2, 3, 3, 3, 3, 3, 3, 3, 3, 3, 3, 3, 2, 2, 2, 2, 2, 2, 2, 2, 4, 4, 2, 9, 2, 2, 2, 2, 2, 2, 2, 2, 3, 3, 2, 2, 3, 3, 2, 2, 2, 2, 2, 2, 2, 2, 2, 2, 2, 2, 2, 2, 3, 3, 2, 6, 4, 4, 1, 1, 1, 4, 2, 2, 2, 1, 1, 1, 1, 1, 2, 2, 2, 4, 2, 2, 2, 2, 3, 3, 2, 2, 3, 3, 3, 3, 3, 2, 2, 2, 5, 24]
set_option maxRecDepth 100000 in
theorem zKs_ok : ∀ y, y < 196 → (zC y).length ≤ 25 * zKs.getD y 0 := by decide +kernel
theorem zKb_0 : ∀ y, y < 2 → 0 ≤ y → zKs.getD y 0 ≤ 2 := by decide +kernel
theorem zKb_1 : ∀ y, y < 3 → 2 ≤ y → zKs.getD y 0 ≤ 4 := by decide +kernel
theorem zKb_2 : ∀ y, y < 6 → 3 ≤ y → zKs.getD y 0 ≤ 2 := by decide +kernel
theorem zKb_3 : ∀ y, y < 8 → 6 ≤ y → zKs.getD y 0 ≤ 1 := by decide +kernel
theorem zKb_4 : ∀ y, y < 10 → 8 ≤ y → zKs.getD y 0 ≤ 4 := by decide +kernel
theorem zKb_5 : ∀ y, y < 12 → 10 ≤ y → zKs.getD y 0 ≤ 3 := by decide +kernel
theorem zKb_6 : ∀ y, y < 17 → 12 ≤ y → zKs.getD y 0 ≤ 2 := by decide +kernel
theorem zKb_7 : ∀ y, y < 21 → 17 ≤ y → zKs.getD y 0 ≤ 3 := by decide +kernel
theorem zKb_8 : ∀ y, y < 25 → 21 ≤ y → zKs.getD y 0 ≤ 2 := by decide +kernel
theorem zKb_9 : ∀ y, y < 27 → 25 ≤ y → zKs.getD y 0 ≤ 3 := by decide +kernel
theorem zKb_10 : ∀ y, y < 29 → 27 ≤ y → zKs.getD y 0 ≤ 2 := by decide +kernel
theorem zKb_11 : ∀ y, y < 31 → 29 ≤ y → zKs.getD y 0 ≤ 2 := by decide +kernel
theorem zKb_12 : ∀ y, y < 33 → 31 ≤ y → zKs.getD y 0 ≤ 3 := by decide +kernel
theorem zKb_13 : ∀ y, y < 36 → 33 ≤ y → zKs.getD y 0 ≤ 2 := by decide +kernel
theorem zKb_14 : ∀ y, y < 40 → 36 ≤ y → zKs.getD y 0 ≤ 2 := by decide +kernel
theorem zKb_15 : ∀ y, y < 43 → 40 ≤ y → zKs.getD y 0 ≤ 2 := by decide +kernel
theorem zKb_16 : ∀ y, y < 46 → 43 ≤ y → zKs.getD y 0 ≤ 2 := by decide +kernel
theorem zKb_17 : ∀ y, y < 50 → 46 ≤ y → zKs.getD y 0 ≤ 2 := by decide +kernel
theorem zKb_18 : ∀ y, y < 54 → 50 ≤ y → zKs.getD y 0 ≤ 2 := by decide +kernel
theorem zKb_19 : ∀ y, y < 57 → 54 ≤ y → zKs.getD y 0 ≤ 2 := by decide +kernel
theorem zKb_20 : ∀ y, y < 59 → 57 ≤ y → zKs.getD y 0 ≤ 3 := by decide +kernel
theorem zKb_21 : ∀ y, y < 61 → 59 ≤ y → zKs.getD y 0 ≤ 2 := by decide +kernel
theorem zKb_22 : ∀ y, y < 65 → 61 ≤ y → zKs.getD y 0 ≤ 3 := by decide +kernel
theorem zKb_23 : ∀ y, y < 68 → 65 ≤ y → zKs.getD y 0 ≤ 2 := by decide +kernel
theorem zKb_24 : ∀ y, y < 71 → 68 ≤ y → zKs.getD y 0 ≤ 2 := by decide +kernel
theorem zKb_25 : ∀ y, y < 73 → 71 ≤ y → zKs.getD y 0 ≤ 2 := by decide +kernel
theorem zKb_26 : ∀ y, y < 77 → 73 ≤ y → zKs.getD y 0 ≤ 2 := by decide +kernel
theorem zKb_27 : ∀ y, y < 78 → 77 ≤ y → zKs.getD y 0 ≤ 1 := by decide +kernel
theorem zKb_28 : ∀ y, y < 80 → 78 ≤ y → zKs.getD y 0 ≤ 4 := by decide +kernel
theorem zKb_29 : ∀ y, y < 84 → 80 ≤ y → zKs.getD y 0 ≤ 1 := by decide +kernel
theorem zKb_30 : ∀ y, y < 85 → 84 ≤ y → zKs.getD y 0 ≤ 4 := by decide +kernel
theorem zKb_31 : ∀ y, y < 89 → 85 ≤ y → zKs.getD y 0 ≤ 2 := by decide +kernel
theorem zKb_32 : ∀ y, y < 90 → 89 ≤ y → zKs.getD y 0 ≤ 2 := by decide +kernel
theorem zKb_33 : ∀ y, y < 91 → 90 ≤ y → zKs.getD y 0 ≤ 5 := by decide +kernel
theorem zKb_34 : ∀ y, y < 94 → 91 ≤ y → zKs.getD y 0 ≤ 2 := by decide +kernel
theorem zKb_35 : ∀ y, y < 95 → 94 ≤ y → zKs.getD y 0 ≤ 3 := by decide +kernel
theorem zKb_36 : ∀ y, y < 96 → 95 ≤ y → zKs.getD y 0 ≤ 2 := by decide +kernel
theorem zKb_37 : ∀ y, y < 100 → 96 ≤ y → zKs.getD y 0 ≤ 3 := by decide +kernel
theorem zKb_38 : ∀ y, y < 105 → 100 ≤ y → zKs.getD y 0 ≤ 2 := by decide +kernel
theorem zKb_39 : ∀ y, y < 108 → 105 ≤ y → zKs.getD y 0 ≤ 3 := by decide +kernel
theorem zKb_40 : ∀ y, y < 116 → 108 ≤ y → zKs.getD y 0 ≤ 3 := by decide +kernel
theorem zKb_41 : ∀ y, y < 121 → 116 ≤ y → zKs.getD y 0 ≤ 2 := by decide +kernel
theorem zKb_42 : ∀ y, y < 124 → 121 ≤ y → zKs.getD y 0 ≤ 2 := by decide +kernel
theorem zKb_43 : ∀ y, y < 126 → 124 ≤ y → zKs.getD y 0 ≤ 4 := by decide +kernel
theorem zKb_44 : ∀ y, y < 127 → 126 ≤ y → zKs.getD y 0 ≤ 2 := by decide +kernel
theorem zKb_45 : ∀ y, y < 128 → 127 ≤ y → zKs.getD y 0 ≤ 9 := by decide +kernel
theorem zKb_46 : ∀ y, y < 132 → 128 ≤ y → zKs.getD y 0 ≤ 2 := by decide +kernel
theorem zKb_47 : ∀ y, y < 136 → 132 ≤ y → zKs.getD y 0 ≤ 2 := by decide +kernel
theorem zKb_48 : ∀ y, y < 138 → 136 ≤ y → zKs.getD y 0 ≤ 3 := by decide +kernel
theorem zKb_49 : ∀ y, y < 140 → 138 ≤ y → zKs.getD y 0 ≤ 2 := by decide +kernel
theorem zKb_50 : ∀ y, y < 142 → 140 ≤ y → zKs.getD y 0 ≤ 3 := by decide +kernel
theorem zKb_51 : ∀ y, y < 146 → 142 ≤ y → zKs.getD y 0 ≤ 2 := by decide +kernel
theorem zKb_52 : ∀ y, y < 149 → 146 ≤ y → zKs.getD y 0 ≤ 2 := by decide +kernel
theorem zKb_53 : ∀ y, y < 152 → 149 ≤ y → zKs.getD y 0 ≤ 2 := by decide +kernel
theorem zKb_54 : ∀ y, y < 156 → 152 ≤ y → zKs.getD y 0 ≤ 2 := by decide +kernel
theorem zKb_55 : ∀ y, y < 158 → 156 ≤ y → zKs.getD y 0 ≤ 3 := by decide +kernel
theorem zKb_56 : ∀ y, y < 159 → 158 ≤ y → zKs.getD y 0 ≤ 2 := by decide +kernel
theorem zKb_57 : ∀ y, y < 160 → 159 ≤ y → zKs.getD y 0 ≤ 6 := by decide +kernel
theorem zKb_58 : ∀ y, y < 162 → 160 ≤ y → zKs.getD y 0 ≤ 4 := by decide +kernel
theorem zKb_59 : ∀ y, y < 165 → 162 ≤ y → zKs.getD y 0 ≤ 1 := by decide +kernel
theorem zKb_60 : ∀ y, y < 166 → 165 ≤ y → zKs.getD y 0 ≤ 4 := by decide +kernel
theorem zKb_61 : ∀ y, y < 169 → 166 ≤ y → zKs.getD y 0 ≤ 2 := by decide +kernel
theorem zKb_62 : ∀ y, y < 174 → 169 ≤ y → zKs.getD y 0 ≤ 1 := by decide +kernel
theorem zKb_63 : ∀ y, y < 177 → 174 ≤ y → zKs.getD y 0 ≤ 2 := by decide +kernel
theorem zKb_64 : ∀ y, y < 178 → 177 ≤ y → zKs.getD y 0 ≤ 4 := by decide +kernel
theorem zKb_65 : ∀ y, y < 182 → 178 ≤ y → zKs.getD y 0 ≤ 2 := by decide +kernel
theorem zKb_66 : ∀ y, y < 184 → 182 ≤ y → zKs.getD y 0 ≤ 3 := by decide +kernel
theorem zKb_67 : ∀ y, y < 186 → 184 ≤ y → zKs.getD y 0 ≤ 2 := by decide +kernel
theorem zKb_68 : ∀ y, y < 187 → 186 ≤ y → zKs.getD y 0 ≤ 3 := by decide +kernel
theorem zKb_69 : ∀ y, y < 188 → 187 ≤ y → zKs.getD y 0 ≤ 3 := by decide +kernel
theorem zKb_70 : ∀ y, y < 190 → 188 ≤ y → zKs.getD y 0 ≤ 3 := by decide +kernel
theorem zKb_71 : ∀ y, y < 191 → 190 ≤ y → zKs.getD y 0 ≤ 3 := by decide +kernel
theorem zKb_72 : ∀ y, y < 194 → 191 ≤ y → zKs.getD y 0 ≤ 2 := by decide +kernel
theorem zKb_73 : ∀ y, y < 195 → 194 ≤ y → zKs.getD y 0 ≤ 5 := by decide +kernel
theorem zok_all (y k : Nat) (hy : y < 196) (hk : k < zKs.getD y 0) : zok y k := by
  rcases Nat.lt_or_ge y 2 with h0 | h0
  · have e : 0 + (y - 0) = y := by omega
    have hk2 : zKs.getD y 0 ≤ 2 := zKb_0 y h0 (by omega)
    have h := zg_0 (y - 0) (by omega) k (by omega)
    rw [e] at h
    exact h
  rcases Nat.lt_or_ge y 3 with h1 | h1
  · have e : 2 + (y - 2) = y := by omega
    have hk2 : zKs.getD y 0 ≤ 4 := zKb_1 y h1 (by omega)
    have h := zg_1 (y - 2) (by omega) k (by omega)
    rw [e] at h
    exact h
  rcases Nat.lt_or_ge y 6 with h2 | h2
  · have e : 3 + (y - 3) = y := by omega
    have hk2 : zKs.getD y 0 ≤ 2 := zKb_2 y h2 (by omega)
    have h := zg_2 (y - 3) (by omega) k (by omega)
    rw [e] at h
    exact h
  rcases Nat.lt_or_ge y 8 with h3 | h3
  · have e : 6 + (y - 6) = y := by omega
    have hk2 : zKs.getD y 0 ≤ 1 := zKb_3 y h3 (by omega)
    have h := zg_3 (y - 6) (by omega) k (by omega)
    rw [e] at h
    exact h
  rcases Nat.lt_or_ge y 10 with h4 | h4
  · have e : 8 + (y - 8) = y := by omega
    have hk2 : zKs.getD y 0 ≤ 4 := zKb_4 y h4 (by omega)
    have h := zg_4 (y - 8) (by omega) k (by omega)
    rw [e] at h
    exact h
  rcases Nat.lt_or_ge y 12 with h5 | h5
  · have e : 10 + (y - 10) = y := by omega
    have hk2 : zKs.getD y 0 ≤ 3 := zKb_5 y h5 (by omega)
    have h := zg_5 (y - 10) (by omega) k (by omega)
    rw [e] at h
    exact h
  rcases Nat.lt_or_ge y 17 with h6 | h6
  · have e : 12 + (y - 12) = y := by omega
    have hk2 : zKs.getD y 0 ≤ 2 := zKb_6 y h6 (by omega)
    have h := zg_6 (y - 12) (by omega) k (by omega)
    rw [e] at h
    exact h
  rcases Nat.lt_or_ge y 21 with h7 | h7
  · have e : 17 + (y - 17) = y := by omega
    have hk2 : zKs.getD y 0 ≤ 3 := zKb_7 y h7 (by omega)
    have h := zg_7 (y - 17) (by omega) k (by omega)
    rw [e] at h
    exact h
  rcases Nat.lt_or_ge y 25 with h8 | h8
  · have e : 21 + (y - 21) = y := by omega
    have hk2 : zKs.getD y 0 ≤ 2 := zKb_8 y h8 (by omega)
    have h := zg_8 (y - 21) (by omega) k (by omega)
    rw [e] at h
    exact h
  rcases Nat.lt_or_ge y 27 with h9 | h9
  · have e : 25 + (y - 25) = y := by omega
    have hk2 : zKs.getD y 0 ≤ 3 := zKb_9 y h9 (by omega)
    have h := zg_9 (y - 25) (by omega) k (by omega)
    rw [e] at h
    exact h
  rcases Nat.lt_or_ge y 29 with h10 | h10
  · have e : 27 + (y - 27) = y := by omega
    have hk2 : zKs.getD y 0 ≤ 2 := zKb_10 y h10 (by omega)
    have h := zg_10 (y - 27) (by omega) k (by omega)
    rw [e] at h
    exact h
  rcases Nat.lt_or_ge y 31 with h11 | h11
  · have e : 29 + (y - 29) = y := by omega
    have hk2 : zKs.getD y 0 ≤ 2 := zKb_11 y h11 (by omega)
    have h := zg_11 (y - 29) (by omega) k (by omega)
    rw [e] at h
    exact h
  rcases Nat.lt_or_ge y 33 with h12 | h12
  · have e : 31 + (y - 31) = y := by omega
    have hk2 : zKs.getD y 0 ≤ 3 := zKb_12 y h12 (by omega)
    have h := zg_12 (y - 31) (by omega) k (by omega)
    rw [e] at h
    exact h
  rcases Nat.lt_or_ge y 36 with h13 | h13
  · have e : 33 + (y - 33) = y := by omega
    have hk2 : zKs.getD y 0 ≤ 2 := zKb_13 y h13 (by omega)
    have h := zg_13 (y - 33) (by omega) k (by omega)
    rw [e] at h
    exact h
  rcases Nat.lt_or_ge y 40 with h14 | h14
  · have e : 36 + (y - 36) = y := by omega
    have hk2 : zKs.getD y 0 ≤ 2 := zKb_14 y h14 (by omega)
    have h := zg_14 (y - 36) (by omega) k (by omega)
    rw [e] at h
    exact h
  rcases Nat.lt_or_ge y 43 with h15 | h15
  · have e : 40 + (y - 40) = y := by omega
    have hk2 : zKs.getD y 0 ≤ 2 := zKb_15 y h15 (by omega)
    have h := zg_15 (y - 40) (by omega) k (by omega)
    rw [e] at h
    exact h
  rcases Nat.lt_or_ge y 46 with h16 | h16
  · have e : 43 + (y - 43) = y := by omega
    have hk2 : zKs.getD y 0 ≤ 2 := zKb_16 y h16 (by omega)
    have h := zg_16 (y - 43) (by omega) k (by omega)
    rw [e] at h
    exact h
  rcases Nat.lt_or_ge y 50 with h17 | h17
  · have e : 46 + (y - 46) = y := by omega
    have hk2 : zKs.getD y 0 ≤ 2 := zKb_17 y h17 (by omega)
    have h := zg_17 (y - 46) (by omega) k (by omega)
    rw [e] at h
    exact h
  rcases Nat.lt_or_ge y 54 with h18 | h18
  · have e : 50 + (y - 50) = y := by omega
    have hk2 : zKs.getD y 0 ≤ 2 := zKb_18 y h18 (by omega)
    have h := zg_18 (y - 50) (by omega) k (by omega)
    rw [e] at h
    exact h
  rcases Nat.lt_or_ge y 57 with h19 | h19
  · have e : 54 + (y - 54) = y := by omega
    have hk2 : zKs.getD y 0 ≤ 2 := zKb_19 y h19 (by omega)
    have h := zg_19 (y - 54) (by omega) k (by omega)
    rw [e] at h
    exact h
  rcases Nat.lt_or_ge y 59 with h20 | h20
  · have e : 57 + (y - 57) = y := by omega
    have hk2 : zKs.getD y 0 ≤ 3 := zKb_20 y h20 (by omega)
    have h := zg_20 (y - 57) (by omega) k (by omega)
    rw [e] at h
    exact h
  rcases Nat.lt_or_ge y 61 with h21 | h21
  · have e : 59 + (y - 59) = y := by omega
    have hk2 : zKs.getD y 0 ≤ 2 := zKb_21 y h21 (by omega)
    have h := zg_21 (y - 59) (by omega) k (by omega)
    rw [e] at h
    exact h
  rcases Nat.lt_or_ge y 65 with h22 | h22
  · have e : 61 + (y - 61) = y := by omega
    have hk2 : zKs.getD y 0 ≤ 3 := zKb_22 y h22 (by omega)
    have h := zg_22 (y - 61) (by omega) k (by omega)
    rw [e] at h
    exact h
  rcases Nat.lt_or_ge y 68 with h23 | h23
  · have e : 65 + (y - 65) = y := by omega
    have hk2 : zKs.getD y 0 ≤ 2 := zKb_23 y h23 (by omega)
    have h := zg_23 (y - 65) (by omega) k (by omega)
    rw [e] at h
    exact h
  rcases Nat.lt_or_ge y 71 with h24 | h24
  · have e : 68 + (y - 68) = y := by omega
    have hk2 : zKs.getD y 0 ≤ 2 := zKb_24 y h24 (by omega)
    have h := zg_24 (y - 68) (by omega) k (by omega)
    rw [e] at h
    exact h
  rcases Nat.lt_or_ge y 73 with h25 | h25
  · have e : 71 + (y - 71) = y := by omega
    have hk2 : zKs.getD y 0 ≤ 2 := zKb_25 y h25 (by omega)
    have h := zg_25 (y - 71) (by omega) k (by omega)
    rw [e] at h
    exact h
  rcases Nat.lt_or_ge y 77 with h26 | h26
  · have e : 73 + (y - 73) = y := by omega
    have hk2 : zKs.getD y 0 ≤ 2 := zKb_26 y h26 (by omega)
    have h := zg_26 (y - 73) (by omega) k (by omega)
    rw [e] at h
    exact h
  rcases Nat.lt_or_ge y 78 with h27 | h27
  · have e : 77 + (y - 77) = y := by omega
    have hk2 : zKs.getD y 0 ≤ 1 := zKb_27 y h27 (by omega)
    have h := zg_27 (y - 77) (by omega) k (by omega)
    rw [e] at h
    exact h
  rcases Nat.lt_or_ge y 80 with h28 | h28
  · have e : 78 + (y - 78) = y := by omega
    have hk2 : zKs.getD y 0 ≤ 4 := zKb_28 y h28 (by omega)
    have h := zg_28 (y - 78) (by omega) k (by omega)
    rw [e] at h
    exact h
  rcases Nat.lt_or_ge y 84 with h29 | h29
  · have e : 80 + (y - 80) = y := by omega
    have hk2 : zKs.getD y 0 ≤ 1 := zKb_29 y h29 (by omega)
    have h := zg_29 (y - 80) (by omega) k (by omega)
    rw [e] at h
    exact h
  rcases Nat.lt_or_ge y 85 with h30 | h30
  · have e : 84 + (y - 84) = y := by omega
    have hk2 : zKs.getD y 0 ≤ 4 := zKb_30 y h30 (by omega)
    have h := zg_30 (y - 84) (by omega) k (by omega)
    rw [e] at h
    exact h
  rcases Nat.lt_or_ge y 89 with h31 | h31
  · have e : 85 + (y - 85) = y := by omega
    have hk2 : zKs.getD y 0 ≤ 2 := zKb_31 y h31 (by omega)
    have h := zg_31 (y - 85) (by omega) k (by omega)
    rw [e] at h
    exact h
  rcases Nat.lt_or_ge y 90 with h32 | h32
  · have e : 89 + (y - 89) = y := by omega
    have hk2 : zKs.getD y 0 ≤ 2 := zKb_32 y h32 (by omega)
    have h := zg_32 (y - 89) (by omega) k (by omega)
    rw [e] at h
    exact h
  rcases Nat.lt_or_ge y 91 with h33 | h33
  · have e : 90 + (y - 90) = y := by omega
    have hk2 : zKs.getD y 0 ≤ 5 := zKb_33 y h33 (by omega)
    have h := zg_33 (y - 90) (by omega) k (by omega)
    rw [e] at h
    exact h
  rcases Nat.lt_or_ge y 94 with h34 | h34
  · have e : 91 + (y - 91) = y := by omega
    have hk2 : zKs.getD y 0 ≤ 2 := zKb_34 y h34 (by omega)
    have h := zg_34 (y - 91) (by omega) k (by omega)
    rw [e] at h
    exact h
  rcases Nat.lt_or_ge y 95 with h35 | h35
  · have e : 94 + (y - 94) = y := by omega
    have hk2 : zKs.getD y 0 ≤ 3 := zKb_35 y h35 (by omega)
    have h := zg_35 (y - 94) (by omega) k (by omega)
    rw [e] at h
    exact h
  rcases Nat.lt_or_ge y 96 with h36 | h36
  · have e : 95 + (y - 95) = y := by omega
    have hk2 : zKs.getD y 0 ≤ 2 := zKb_36 y h36 (by omega)
    have h := zg_36 (y - 95) (by omega) k (by omega)
    rw [e] at h
    exact h
  rcases Nat.lt_or_ge y 100 with h37 | h37
  · have e : 96 + (y - 96) = y := by omega
    have hk2 : zKs.getD y 0 ≤ 3 := zKb_37 y h37 (by omega)
    have h := zg_37 (y - 96) (by omega) k (by omega)
    rw [e] at h
    exact h
  rcases Nat.lt_or_ge y 105 with h38 | h38
  · have e : 100 + (y - 100) = y := by omega
    have hk2 : zKs.getD y 0 ≤ 2 := zKb_38 y h38 (by omega)
    have h := zg_38 (y - 100) (by omega) k (by omega)
    rw [e] at h
    exact h
  rcases Nat.lt_or_ge y 108 with h39 | h39
  · have e : 105 + (y - 105) = y := by omega
    have hk2 : zKs.getD y 0 ≤ 3 := zKb_39 y h39 (by omega)
    have h := zg_39 (y - 105) (by omega) k (by omega)
    rw [e] at h
    exact h
  rcases Nat.lt_or_ge y 116 with h40 | h40
  · have e : 108 + (y - 108) = y := by omega
    have hk2 : zKs.getD y 0 ≤ 3 := zKb_40 y h40 (by omega)
    have h := zg_40 (y - 108) (by omega) k (by omega)
    rw [e] at h
    exact h
  rcases Nat.lt_or_ge y 121 with h41 | h41
  · have e : 116 + (y - 116) = y := by omega
    have hk2 : zKs.getD y 0 ≤ 2 := zKb_41 y h41 (by omega)
    have h := zg_41 (y - 116) (by omega) k (by omega)
    rw [e] at h
    exact h
  rcases Nat.lt_or_ge y 124 with h42 | h42
  · have e : 121 + (y - 121) = y := by omega
    have hk2 : zKs.getD y 0 ≤ 2 := zKb_42 y h42 (by omega)
    have h := zg_42 (y - 121) (by omega) k (by omega)
    rw [e] at h
    exact h
  rcases Nat.lt_or_ge y 126 with h43 | h43
  · have e : 124 + (y - 124) = y := by omega
    have hk2 : zKs.getD y 0 ≤ 4 := zKb_43 y h43 (by omega)
    have h := zg_43 (y - 124) (by omega) k (by omega)
    rw [e] at h
    exact h
  rcases Nat.lt_or_ge y 127 with h44 | h44
  · have e : 126 + (y - 126) = y := by omega
    have hk2 : zKs.getD y 0 ≤ 2 := zKb_44 y h44 (by omega)
    have h := zg_44 (y - 126) (by omega) k (by omega)
    rw [e] at h
    exact h
  rcases Nat.lt_or_ge y 128 with h45 | h45
  · have e : 127 + (y - 127) = y := by omega
    have hk2 : zKs.getD y 0 ≤ 9 := zKb_45 y h45 (by omega)
    have h := zg_45 (y - 127) (by omega) k (by omega)
    rw [e] at h
    exact h
  rcases Nat.lt_or_ge y 132 with h46 | h46
  · have e : 128 + (y - 128) = y := by omega
    have hk2 : zKs.getD y 0 ≤ 2 := zKb_46 y h46 (by omega)
    have h := zg_46 (y - 128) (by omega) k (by omega)
    rw [e] at h
    exact h
  rcases Nat.lt_or_ge y 136 with h47 | h47
  · have e : 132 + (y - 132) = y := by omega
    have hk2 : zKs.getD y 0 ≤ 2 := zKb_47 y h47 (by omega)
    have h := zg_47 (y - 132) (by omega) k (by omega)
    rw [e] at h
    exact h
  rcases Nat.lt_or_ge y 138 with h48 | h48
  · have e : 136 + (y - 136) = y := by omega
    have hk2 : zKs.getD y 0 ≤ 3 := zKb_48 y h48 (by omega)
    have h := zg_48 (y - 136) (by omega) k (by omega)
    rw [e] at h
    exact h
  rcases Nat.lt_or_ge y 140 with h49 | h49
  · have e : 138 + (y - 138) = y := by omega
    have hk2 : zKs.getD y 0 ≤ 2 := zKb_49 y h49 (by omega)
    have h := zg_49 (y - 138) (by omega) k (by omega)
    rw [e] at h
    exact h
  rcases Nat.lt_or_ge y 142 with h50 | h50
  · have e : 140 + (y - 140) = y := by omega
    have hk2 : zKs.getD y 0 ≤ 3 := zKb_50 y h50 (by omega)
    have h := zg_50 (y - 140) (by omega) k (by omega)
    rw [e] at h
    exact h
  rcases Nat.lt_or_ge y 146 with h51 | h51
  · have e : 142 + (y - 142) = y := by omega
    have hk2 : zKs.getD y 0 ≤ 2 := zKb_51 y h51 (by omega)
    have h := zg_51 (y - 142) (by omega) k (by omega)
    rw [e] at h
    exact h
  rcases Nat.lt_or_ge y 149 with h52 | h52
  · have e : 146 + (y - 146) = y := by omega
    have hk2 : zKs.getD y 0 ≤ 2 := zKb_52 y h52 (by omega)
    have h := zg_52 (y - 146) (by omega) k (by omega)
    rw [e] at h
    exact h
  rcases Nat.lt_or_ge y 152 with h53 | h53
  · have e : 149 + (y - 149) = y := by omega
    have hk2 : zKs.getD y 0 ≤ 2 := zKb_53 y h53 (by omega)
    have h := zg_53 (y - 149) (by omega) k (by omega)
    rw [e] at h
    exact h
  rcases Nat.lt_or_ge y 156 with h54 | h54
  · have e : 152 + (y - 152) = y := by omega
    have hk2 : zKs.getD y 0 ≤ 2 := zKb_54 y h54 (by omega)
    have h := zg_54 (y - 152) (by omega) k (by omega)
    rw [e] at h
    exact h
  rcases Nat.lt_or_ge y 158 with h55 | h55
  · have e : 156 + (y - 156) = y := by omega
    have hk2 : zKs.getD y 0 ≤ 3 := zKb_55 y h55 (by omega)
    have h := zg_55 (y - 156) (by omega) k (by omega)
    rw [e] at h
    exact h
  rcases Nat.lt_or_ge y 159 with h56 | h56
  · have e : 158 + (y - 158) = y := by omega
    have hk2 : zKs.getD y 0 ≤ 2 := zKb_56 y h56 (by omega)
    have h := zg_56 (y - 158) (by omega) k (by omega)
    rw [e] at h
    exact h
  rcases Nat.lt_or_ge y 160 with h57 | h57
  · have e : 159 + (y - 159) = y := by omega
    have hk2 : zKs.getD y 0 ≤ 6 := zKb_57 y h57 (by omega)
    have h := zg_57 (y - 159) (by omega) k (by omega)
    rw [e] at h
    exact h
  rcases Nat.lt_or_ge y 162 with h58 | h58
  · have e : 160 + (y - 160) = y := by omega
    have hk2 : zKs.getD y 0 ≤ 4 := zKb_58 y h58 (by omega)
    have h := zg_58 (y - 160) (by omega) k (by omega)
    rw [e] at h
    exact h
  rcases Nat.lt_or_ge y 165 with h59 | h59
  · have e : 162 + (y - 162) = y := by omega
    have hk2 : zKs.getD y 0 ≤ 1 := zKb_59 y h59 (by omega)
    have h := zg_59 (y - 162) (by omega) k (by omega)
    rw [e] at h
    exact h
  rcases Nat.lt_or_ge y 166 with h60 | h60
  · have e : 165 + (y - 165) = y := by omega
    have hk2 : zKs.getD y 0 ≤ 4 := zKb_60 y h60 (by omega)
    have h := zg_60 (y - 165) (by omega) k (by omega)
    rw [e] at h
    exact h
  rcases Nat.lt_or_ge y 169 with h61 | h61
  · have e : 166 + (y - 166) = y := by omega
    have hk2 : zKs.getD y 0 ≤ 2 := zKb_61 y h61 (by omega)
    have h := zg_61 (y - 166) (by omega) k (by omega)
    rw [e] at h
    exact h
  rcases Nat.lt_or_ge y 174 with h62 | h62
  · have e : 169 + (y - 169) = y := by omega
    have hk2 : zKs.getD y 0 ≤ 1 := zKb_62 y h62 (by omega)
    have h := zg_62 (y - 169) (by omega) k (by omega)
    rw [e] at h
    exact h
  rcases Nat.lt_or_ge y 177 with h63 | h63
  · have e : 174 + (y - 174) = y := by omega
    have hk2 : zKs.getD y 0 ≤ 2 := zKb_63 y h63 (by omega)
    have h := zg_63 (y - 174) (by omega) k (by omega)
    rw [e] at h
    exact h
  rcases Nat.lt_or_ge y 178 with h64 | h64
  · have e : 177 + (y - 177) = y := by omega
    have hk2 : zKs.getD y 0 ≤ 4 := zKb_64 y h64 (by omega)
    have h := zg_64 (y - 177) (by omega) k (by omega)
    rw [e] at h
    exact h
  rcases Nat.lt_or_ge y 182 with h65 | h65
  · have e : 178 + (y - 178) = y := by omega
    have hk2 : zKs.getD y 0 ≤ 2 := zKb_65 y h65 (by omega)
    have h := zg_65 (y - 178) (by omega) k (by omega)
    rw [e] at h
    exact h
  rcases Nat.lt_or_ge y 184 with h66 | h66
  · have e : 182 + (y - 182) = y := by omega
    have hk2 : zKs.getD y 0 ≤ 3 := zKb_66 y h66 (by omega)
    have h := zg_66 (y - 182) (by omega) k (by omega)
    rw [e] at h
    exact h
  rcases Nat.lt_or_ge y 186 with h67 | h67
  · have e : 184 + (y - 184) = y := by omega
    have hk2 : zKs.getD y 0 ≤ 2 := zKb_67 y h67 (by omega)
    have h := zg_67 (y - 184) (by omega) k (by omega)
    rw [e] at h
    exact h
  rcases Nat.lt_or_ge y 187 with h68 | h68
  · have e : 186 + (y - 186) = y := by omega
    have hk2 : zKs.getD y 0 ≤ 3 := zKb_68 y h68 (by omega)
    have h := zg_68 (y - 186) (by omega) k (by omega)
    rw [e] at h
    exact h
  rcases Nat.lt_or_ge y 188 with h69 | h69
  · have e : 187 + (y - 187) = y := by omega
    have hk2 : zKs.getD y 0 ≤ 3 := zKb_69 y h69 (by omega)
    have h := zg_69 (y - 187) (by omega) k (by omega)
    rw [e] at h
    exact h
  rcases Nat.lt_or_ge y 190 with h70 | h70
  · have e : 188 + (y - 188) = y := by omega
    have hk2 : zKs.getD y 0 ≤ 3 := zKb_70 y h70 (by omega)
    have h := zg_70 (y - 188) (by omega) k (by omega)
    rw [e] at h
    exact h
  rcases Nat.lt_or_ge y 191 with h71 | h71
  · have e : 190 + (y - 190) = y := by omega
    have hk2 : zKs.getD y 0 ≤ 3 := zKb_71 y h71 (by omega)
    have h := zg_71 (y - 190) (by omega) k (by omega)
    rw [e] at h
    exact h
  rcases Nat.lt_or_ge y 194 with h72 | h72
  · have e : 191 + (y - 191) = y := by omega
    have hk2 : zKs.getD y 0 ≤ 2 := zKb_72 y h72 (by omega)
    have h := zg_72 (y - 191) (by omega) k (by omega)
    rw [e] at h
    exact h
  rcases Nat.lt_or_ge y 195 with h73 | h73
  · have e : 194 + (y - 194) = y := by omega
    have hk2 : zKs.getD y 0 ≤ 5 := zKb_73 y h73 (by omega)
    have h := zg_73 (y - 194) (by omega) k (by omega)
    rw [e] at h
    exact h
  have e : y = 195 := by omega
  subst e
  have hk : k < 24 := hk
  match k, hk with
  | 0, _ => exact zgl_0
  | 1, _ => exact zgl_1
  | 2, _ => exact zgl_2
  | 3, _ => exact zgl_3
  | 4, _ => exact zgl_4
  | 5, _ => exact zgl_5
  | 6, _ => exact zgl_6
  | 7, _ => exact zgl_7
  | 8, _ => exact zgl_8
  | 9, _ => exact zgl_9
  | 10, _ => exact zgl_10
  | 11, _ => exact zgl_11
  | 12, _ => exact zgl_12
  | 13, _ => exact zgl_13
  | 14, _ => exact zgl_14
  | 15, _ => exact zgl_15
  | 16, _ => exact zgl_16
  | 17, _ => exact zgl_17
  | 18, _ => exact zgl_18
  | 19, _ => exact zgl_19
  | 20, _ => exact zgl_20
  | 21, _ => exact zgl_21
  | 22, _ => exact zgl_22
  | 23, _ => exact zgl_23
  | k + 24, h => omega
