set_option maxRecDepth 100000 in
theorem zcd_0 : ∀ y, y < 5 → lw_tbl[zPosC.getD (0 + y) 0]? = some (.code (zM_ (0 + y)).1 (zM_ (0 + y)).2.1 (zM_ (0 + y)).2.2.1 (zM_ (0 + y)).2.2.2) ∧ goodWord (.code (zM_ (0 + y)).1 (zM_ (0 + y)).2.1 (zM_ (0 + y)).2.2.1 (zM_ (0 + y)).2.2.2) = true ∧ plainName (zM_ (0 + y)).1.cls = true := by decide +kernel
set_option maxRecDepth 100000 in
theorem zcd_1 : ∀ y, y < 5 → lw_tbl[zPosC.getD (5 + y) 0]? = some (.code (zM_ (5 + y)).1 (zM_ (5 + y)).2.1 (zM_ (5 + y)).2.2.1 (zM_ (5 + y)).2.2.2) ∧ goodWord (.code (zM_ (5 + y)).1 (zM_ (5 + y)).2.1 (zM_ (5 + y)).2.2.1 (zM_ (5 + y)).2.2.2) = true ∧ plainName (zM_ (5 + y)).1.cls = true := by decide +kernel
set_option maxRecDepth 100000 in
theorem zcd_2 : ∀ y, y < 5 → lw_tbl[zPosC.getD (10 + y) 0]? = some (.code (zM_ (10 + y)).1 (zM_ (10 + y)).2.1 (zM_ (10 + y)).2.2.1 (zM_ (10 + y)).2.2.2) ∧ goodWord (.code (zM_ (10 + y)).1 (zM_ (10 + y)).2.1 (zM_ (10 + y)).2.2.1 (zM_ (10 + y)).2.2.2) = true ∧ plainName (zM_ (10 + y)).1.cls = true := by decide +kernel
set_option maxRecDepth 100000 in
theorem zcd_3 : ∀ y, y < 5 → lw_tbl[zPosC.getD (15 + y) 0]? = some (.code (zM_ (15 + y)).1 (zM_ (15 + y)).2.1 (zM_ (15 + y)).2.2.1 (zM_ (15 + y)).2.2.2) ∧ goodWord (.code (zM_ (15 + y)).1 (zM_ (15 + y)).2.1 (zM_ (15 + y)).2.2.1 (zM_ (15 + y)).2.2.2) = true ∧ plainName (zM_ (15 + y)).1.cls = true := by decide +kernel
set_option maxRecDepth 100000 in
theorem zcd_4 : ∀ y, y < 5 → lw_tbl[zPosC.getD (20 + y) 0]? = some (.code (zM_ (20 + y)).1 (zM_ (20 + y)).2.1 (zM_ (20 + y)).2.2.1 (zM_ (20 + y)).2.2.2) ∧ goodWord (.code (zM_ (20 + y)).1 (zM_ (20 + y)).2.1 (zM_ (20 + y)).2.2.1 (zM_ (20 + y)).2.2.2) = true ∧ plainName (zM_ (20 + y)).1.cls = true := by decide +kernel
set_option maxRecDepth 100000 in
theorem zcd_5 : ∀ y, y < 5 → lw_tbl[zPosC.getD (25 + y) 0]? = some (.code (zM_ (25 + y)).1 (zM_ (25 + y)).2.1 (zM_ (25 + y)).2.2.1 (zM_ (25 + y)).2.2.2) ∧ goodWord (.code (zM_ (25 + y)).1 (zM_ (25 + y)).2.1 (zM_ (25 + y)).2.2.1 (zM_ (25 + y)).2.2.2) = true ∧ plainName (zM_ (25 + y)).1.cls = true := by decide +kernel
set_option maxRecDepth 100000 in
theorem zcd_6 : ∀ y, y < 5 → lw_tbl[zPosC.getD (30 + y) 0]? = some (.code (zM_ (30 + y)).1 (zM_ (30 + y)).2.1 (zM_ (30 + y)).2.2.1 (zM_ (30 + y)).2.2.2) ∧ goodWord (.code (zM_ (30 + y)).1 (zM_ (30 + y)).2.1 (zM_ (30 + y)).2.2.1 (zM_ (30 + y)).2.2.2) = true ∧ plainName (zM_ (30 + y)).1.cls = true := by decide +kernel
set_option maxRecDepth 100000 in
theorem zcd_7 : ∀ y, y < 5 → lw_tbl[zPosC.getD (35 + y) 0]? = some (.code (zM_ (35 + y)).1 (zM_ (35 + y)).2.1 (zM_ (35 + y)).2.2.1 (zM_ (35 + y)).2.2.2) ∧ goodWord (.code (zM_ (35 + y)).1 (zM_ (35 + y)).2.1 (zM_ (35 + y)).2.2.1 (zM_ (35 + y)).2.2.2) = true ∧ plainName (zM_ (35 + y)).1.cls = true := by decide +kernel
set_option maxRecDepth 100000 in
theorem zcd_8 : ∀ y, y < 5 → lw_tbl[zPosC.getD (40 + y) 0]? = some (.code (zM_ (40 + y)).1 (zM_ (40 + y)).2.1 (zM_ (40 + y)).2.2.1 (zM_ (40 + y)).2.2.2) ∧ goodWord (.code (zM_ (40 + y)).1 (zM_ (40 + y)).2.1 (zM_ (40 + y)).2.2.1 (zM_ (40 + y)).2.2.2) = true ∧ plainName (zM_ (40 + y)).1.cls = true := by decide +kernel
set_option maxRecDepth 100000 in
theorem zcd_9 : ∀ y, y < 5 → lw_tbl[zPosC.getD (45 + y) 0]? = some (.code (zM_ (45 + y)).1 (zM_ (45 + y)).2.1 (zM_ (45 + y)).2.2.1 (zM_ (45 + y)).2.2.2) ∧ goodWord (.code (zM_ (45 + y)).1 (zM_ (45 + y)).2.1 (zM_ (45 + y)).2.2.1 (zM_ (45 + y)).2.2.2) = true ∧ plainName (zM_ (45 + y)).1.cls = true := by decide +kernel
set_option maxRecDepth 100000 in
theorem zcd_10 : ∀ y, y < 5 → lw_tbl[zPosC.getD (50 + y) 0]? = some (.code (zM_ (50 + y)).1 (zM_ (50 + y)).2.1 (zM_ (50 + y)).2.2.1 (zM_ (50 + y)).2.2.2) ∧ goodWord (.code (zM_ (50 + y)).1 (zM_ (50 + y)).2.1 (zM_ (50 + y)).2.2.1 (zM_ (50 + y)).2.2.2) = true ∧ plainName (zM_ (50 + y)).1.cls = true := by decide +kernel
set_option maxRecDepth 100000 in
theorem zcd_11 : ∀ y, y < 5 → lw_tbl[zPosC.getD (55 + y) 0]? = some (.code (zM_ (55 + y)).1 (zM_ (55 + y)).2.1 (zM_ (55 + y)).2.2.1 (zM_ (55 + y)).2.2.2) ∧ goodWord (.code (zM_ (55 + y)).1 (zM_ (55 + y)).2.1 (zM_ (55 + y)).2.2.1 (zM_ (55 + y)).2.2.2) = true ∧ plainName (zM_ (55 + y)).1.cls = true := by decide +kernel
set_option maxRecDepth 100000 in
theorem zcd_12 : ∀ y, y < 5 → lw_tbl[zPosC.getD (60 + y) 0]? = some (.code (zM_ (60 + y)).1 (zM_ (60 + y)).2.1 (zM_ (60 + y)).2.2.1 (zM_ (60 + y)).2.2.2) ∧ goodWord (.code (zM_ (60 + y)).1 (zM_ (60 + y)).2.1 (zM_ (60 + y)).2.2.1 (zM_ (60 + y)).2.2.2) = true ∧ plainName (zM_ (60 + y)).1.cls = true := by decide +kernel
set_option maxRecDepth 100000 in
theorem zcd_13 : ∀ y, y < 5 → lw_tbl[zPosC.getD (65 + y) 0]? = some (.code (zM_ (65 + y)).1 (zM_ (65 + y)).2.1 (zM_ (65 + y)).2.2.1 (zM_ (65 + y)).2.2.2) ∧ goodWord (.code (zM_ (65 + y)).1 (zM_ (65 + y)).2.1 (zM_ (65 + y)).2.2.1 (zM_ (65 + y)).2.2.2) = true ∧ plainName (zM_ (65 + y)).1.cls = true := by decide +kernel
set_option maxRecDepth 100000 in
theorem zcd_14 : ∀ y, y < 5 → lw_tbl[zPosC.getD (70 + y) 0]? = some (.code (zM_ (70 + y)).1 (zM_ (70 + y)).2.1 (zM_ (70 + y)).2.2.1 (zM_ (70 + y)).2.2.2) ∧ goodWord (.code (zM_ (70 + y)).1 (zM_ (70 + y)).2.1 (zM_ (70 + y)).2.2.1 (zM_ (70 + y)).2.2.2) = true ∧ plainName (zM_ (70 + y)).1.cls = true := by decide +kernel
set_option maxRecDepth 100000 in
theorem zcd_15 : ∀ y, y < 5 → lw_tbl[zPosC.getD (75 + y) 0]? = some (.code (zM_ (75 + y)).1 (zM_ (75 + y)).2.1 (zM_ (75 + y)).2.2.1 (zM_ (75 + y)).2.2.2) ∧ goodWord (.code (zM_ (75 + y)).1 (zM_ (75 + y)).2.1 (zM_ (75 + y)).2.2.1 (zM_ (75 + y)).2.2.2) = true ∧ plainName (zM_ (75 + y)).1.cls = true := by decide +kernel
set_option maxRecDepth 100000 in
theorem zcd_16 : ∀ y, y < 5 → lw_tbl[zPosC.getD (80 + y) 0]? = some (.code (zM_ (80 + y)).1 (zM_ (80 + y)).2.1 (zM_ (80 + y)).2.2.1 (zM_ (80 + y)).2.2.2) ∧ goodWord (.code (zM_ (80 + y)).1 (zM_ (80 + y)).2.1 (zM_ (80 + y)).2.2.1 (zM_ (80 + y)).2.2.2) = true ∧ plainName (zM_ (80 + y)).1.cls = true := by decide +kernel
set_option maxRecDepth 100000 in
theorem zcd_17 : ∀ y, y < 5 → lw_tbl[zPosC.getD (85 + y) 0]? = some (.code (zM_ (85 + y)).1 (zM_ (85 + y)).2.1 (zM_ (85 + y)).2.2.1 (zM_ (85 + y)).2.2.2) ∧ goodWord (.code (zM_ (85 + y)).1 (zM_ (85 + y)).2.1 (zM_ (85 + y)).2.2.1 (zM_ (85 + y)).2.2.2) = true ∧ plainName (zM_ (85 + y)).1.cls = true := by decide +kernel
set_option maxRecDepth 100000 in
theorem zcd_18_0 : lw_tbl[zPosC.getD (90 + 0) 0]? = some (.code (zM_ (90 + 0)).1 (zM_ (90 + 0)).2.1 (zM_ (90 + 0)).2.2.1 (zM_ (90 + 0)).2.2.2) ∧ goodWord (.code (zM_ (90 + 0)).1 (zM_ (90 + 0)).2.1 (zM_ (90 + 0)).2.2.1 (zM_ (90 + 0)).2.2.2) = true ∧ plainName (zM_ (90 + 0)).1.cls = true := ⟨by decide +kernel, by decide +kernel, by decide +kernel⟩
set_option maxRecDepth 100000 in
theorem zcd_18_1 : lw_tbl[zPosC.getD (90 + 1) 0]? = some (.code (zM_ (90 + 1)).1 (zM_ (90 + 1)).2.1 (zM_ (90 + 1)).2.2.1 (zM_ (90 + 1)).2.2.2) ∧ goodWord (.code (zM_ (90 + 1)).1 (zM_ (90 + 1)).2.1 (zM_ (90 + 1)).2.2.1 (zM_ (90 + 1)).2.2.2) = true ∧ plainName (zM_ (90 + 1)).1.cls = true := ⟨by decide +kernel, by decide +kernel, by decide +kernel⟩
set_option maxRecDepth 100000 in
theorem zcd_18_2 : lw_tbl[zPosC.getD (90 + 2) 0]? = some (.code (zM_ (90 + 2)).1 (zM_ (90 + 2)).2.1 (zM_ (90 + 2)).2.2.1 (zM_ (90 + 2)).2.2.2) ∧ goodWord (.code (zM_ (90 + 2)).1 (zM_ (90 + 2)).2.1 (zM_ (90 + 2)).2.2.1 (zM_ (90 + 2)).2.2.2) = true ∧ plainName (zM_ (90 + 2)).1.cls = true := ⟨rfl, by decide +kernel, by decide +kernel⟩
set_option maxRecDepth 100000 in
theorem zcd_18_3 : lw_tbl[zPosC.getD (90 + 3) 0]? = some (.code (zM_ (90 + 3)).1 (zM_ (90 + 3)).2.1 (zM_ (90 + 3)).2.2.1 (zM_ (90 + 3)).2.2.2) ∧ goodWord (.code (zM_ (90 + 3)).1 (zM_ (90 + 3)).2.1 (zM_ (90 + 3)).2.2.1 (zM_ (90 + 3)).2.2.2) = true ∧ plainName (zM_ (90 + 3)).1.cls = true := ⟨rfl, by decide +kernel, by decide +kernel⟩
set_option maxRecDepth 100000 in
theorem zcd_18_4 : lw_tbl[zPosC.getD (90 + 4) 0]? = some (.code (zM_ (90 + 4)).1 (zM_ (90 + 4)).2.1 (zM_ (90 + 4)).2.2.1 (zM_ (90 + 4)).2.2.2) ∧ goodWord (.code (zM_ (90 + 4)).1 (zM_ (90 + 4)).2.1 (zM_ (90 + 4)).2.2.1 (zM_ (90 + 4)).2.2.2) = true ∧ plainName (zM_ (90 + 4)).1.cls = true := ⟨rfl, by decide +kernel, by decide +kernel⟩
theorem zcd_18 : ∀ y, y < 5 → lw_tbl[zPosC.getD (90 + y) 0]? = some (.code (zM_ (90 + y)).1 (zM_ (90 + y)).2.1 (zM_ (90 + y)).2.2.1 (zM_ (90 + y)).2.2.2) ∧ goodWord (.code (zM_ (90 + y)).1 (zM_ (90 + y)).2.1 (zM_ (90 + y)).2.2.1 (zM_ (90 + y)).2.2.2) = true ∧ plainName (zM_ (90 + y)).1.cls = true := fun y hy => match y, hy with
  | 0, _ => zcd_18_0
  | 1, _ => zcd_18_1
  | 2, _ => zcd_18_2
  | 3, _ => zcd_18_3
  | 4, _ => zcd_18_4
  | y + 5, h => absurd h (by omega)
theorem zcode_ok (y : Nat) (hy : y < 95) : lw_tbl[zPosC.getD y 0]? = some (.code (zM_ y).1 (zM_ y).2.1 (zM_ y).2.2.1 (zM_ y).2.2.2) ∧ goodWord (.code (zM_ y).1 (zM_ y).2.1 (zM_ y).2.2.1 (zM_ y).2.2.2) = true ∧ plainName (zM_ y).1.cls = true := by
  have e : 5 * (y / 5) + y % 5 = y := by omega
  have hm : y % 5 < 5 := by omega
  generalize y % 5 = m at e hm
  have hk : y / 5 < 19 := by omega
  generalize y / 5 = k at e hk
  subst e
  match k, hk with
  | 0, _ => exact zcd_0 m hm
  | 1, _ => exact zcd_1 m hm
  | 2, _ => exact zcd_2 m hm
  | 3, _ => exact zcd_3 m hm
  | 4, _ => exact zcd_4 m hm
  | 5, _ => exact zcd_5 m hm
  | 6, _ => exact zcd_6 m hm
  | 7, _ => exact zcd_7 m hm
  | 8, _ => exact zcd_8 m hm
  | 9, _ => exact zcd_9 m hm
  | 10, _ => exact zcd_10 m hm
  | 11, _ => exact zcd_11 m hm
  | 12, _ => exact zcd_12 m hm
  | 13, _ => exact zcd_13 m hm
  | 14, _ => exact zcd_14 m hm
  | 15, _ => exact zcd_15 m hm
  | 16, _ => exact zcd_16 m hm
  | 17, _ => exact zcd_17 m hm
  | 18, _ => exact zcd_18 m hm
  | k + 19, h => omega
theorem mem_zGood {w : Cond} (h : w ∈ lw_tbl) (hg : goodWord w = true) : w ∈ zGood := List.mem_filter.mpr ⟨h, hg⟩
/-- an instruction of the tables: what decode says, the numbers, its words -/
theorem z_ins {y pc : Nat} {p : zP} (hy : y < 96) (h : (pc, p) ∈ zC y) : decode (zM_ y).2.1 pc = .ok (p.1, p.2.1) ∧ zON y pc p = true ∧ (∀ w ∈ zLW (zM_ y).1.cls p, w ∈ zGood) ∧ ∀ w ∈ zLN (zM_ y).1.cls p, w ∈ zNest := by
  obtain ⟨i, hi⟩ := List.getElem?_of_mem h
  have hlt := (List.getElem?_eq_some_iff.mp hi).1
  have hlen := zKs_ok y hy
  have hc : (pc, p) ∈ zchunk y (i / 25) := by
    unfold zchunk
    refine List.mem_of_getElem? (i := i % 25) ?_
    rw [List.getElem?_take, if_pos (by omega), List.getElem?_drop, show 25 * (i / 25) + i % 25 = i by omega]
    exact hi
  obtain ⟨g1, g2, g3⟩ := zok_all y (i / 25) hy (by omega)
  have h1 := List.all_eq_true.mp g1 _ hc
  simp only [Bool.and_eq_true, decide_eq_true_eq, List.all_eq_true] at h1
  refine ⟨h1.1.1, h1.1.2, fun w hw => ?_, h1.2⟩
  have h2 : some w ∈ ((zPos.getD y []).getD (i / 25) []).map (fun i => lw_tbl[i]?) := by
    rw [← g3]
    exact List.mem_map.mpr ⟨w, List.mem_flatMap.mpr ⟨_, hc, hw⟩, rfl⟩
  obtain ⟨i, hi, he⟩ := List.mem_map.mp h2
  have h3 := List.all_eq_true.mp g2 i hi
  rw [he] at h3
  exact mem_zGood (List.mem_of_getElem? he) h3
theorem z_code {y : Nat} (hy : y < 95) : Cond.code (zM_ y).1 (zM_ y).2.1 (zM_ y).2.2.1 (zM_ y).2.2.2 ∈ zGood := mem_zGood (List.mem_of_getElem? (zcode_ok y hy).1) (zcode_ok y hy).2.1
