set_option maxRecDepth 100000 in
theorem zcd_0 : ∀ y, y < 5 → lw_tbl[zPosC.getD (0 + y) 0]? = some (.code (zM_ (0 + y)).1 (zM_ (0 + y)).2.1 (zM_ (0 + y)).2.2.1 (zM_ (0 + y)).2.2.2) ∧ goodWord (.code (zM_ (0 + y)).1 (zM_ (0 + y)).2.1 (zM_ (0 + y)).2.2.1 (zM_ (0 + y)).2.2.2) = true ∧ plainName (zM_ (0 + y)).1.cls = true := by decide +kernel
set_option maxRecDepth 100000 in
theorem zcd_1 : ∀ y, y < 5 → lw_tbl[zPosC.getD (5 + y) 0]? = some (.code (zM_ (5 + y)).1 (zM_ (5 + y)).2.1 (zM_ (5 + y)).2.2.1 (zM_ (5 + y)).2.2.2) ∧ goodWord (.code (zM_ (5 + y)).1 (zM_ (5 + y)).2.1 (zM_ (5 + y)).2.2.1 (zM_ (5 + y)).2.2.2) = true ∧ plainName (zM_ (5 + y)).1.cls = true := by decide +kernel
set_option maxRecDepth 100000 in
theorem zcd_2 : ∀ y, y < 5 → lw_tbl[zPosC.getD (10 + y) 0]? = some (.code (zM_ (10 + y)).1 (zM_ (10 + y)).2.1 (zM_ (10 + y)).2.2.1 (zM_ (10 + y)).2.2.2) ∧ goodWord (.code (zM_ (10 + y)).1 (zM_ (10 + y)).2.1 (zM_ (10 + y)).2.2.1 (zM_ (10 + y)).2.2.2) = true ∧ plainName (zM_ (10 + y)).1.cls = true := by decide +kernel
set_option maxRecDepth 100000 in
theorem zcd_3 : ∀ y, y < 5 → lw_tbl[zPosC.getD (15 + y) 0]? = some (.code (zM_ (15 + y)).1 (zM_ (15 + y)).2.1 (zM_ (15 + y)).2.2.1 (zM_ (15 + y)).2.2.2) ∧ goodWord (.code (zM_ (15 + y)).1 (zM_ (15 + y)).2.1 (zM_ (15 + y)).2.2.1 (zM_ (15 + y)).2.2.2) = true ∧ plainName (zM_ (15 + y)).1.cls = true := by decide +kernel
set_option maxRecDepth 100000 in
theorem zcd_4 : ∀ y, y < 5 → lw_tbl[zPosC.getD (20 + y) 0]? = some (.code (zM_ (20 + y)).1 (zM_ (20 + y)).2.1 (zM_ (20 + y)).2.2.1 (zM_ (20 + y)).2.2.2) ∧ goodWord (.code (zM_ (20 + y)).1 (zM_ (20 + y)).2.1 (zM_ (20 + y)).2.2.1 (zM_ (20 + y)).2.2.2) = true ∧ plainName (zM_ (20 + y)).1.cls = true := by decide +kernel
set_option maxRecDepth 100000 in
theorem zcd_5 : ∀ y, y < 5 → lw_tbl[zPosC.getD (25 + y) 0]? = some (.code (zM_ (25 + y)).1 (zM_ (25 + y)).2.1 (zM_ (25 + y)).2.2.1 (zM_ (25 + y)).2.2.2) ∧ goodWord (.code (zM_ (25 + y)).1 (zM_ (25 + y)).2.1 (zM_ (25 + y)).2.2.1 (zM_ (25 + y)).2.2.2) = true ∧ plainName (zM_ (25 + y)).1.cls = true := by decide +kernel
set_option maxRecDepth 100000 in
theorem zcd_6 : ∀ y, y < 5 → lw_tbl[zPosC.getD (30 + y) 0]? = some (.code (zM_ (30 + y)).1 (zM_ (30 + y)).2.1 (zM_ (30 + y)).2.2.1 (zM_ (30 + y)).2.2.2) ∧ goodWord (.code (zM_ (30 + y)).1 (zM_ (30 + y)).2.1 (zM_ (30 + y)).2.2.1 (zM_ (30 + y)).2.2.2) = true ∧ plainName (zM_ (30 + y)).1.cls = true := by decide +kernel
set_option maxRecDepth 100000 in
theorem zcd_7 : ∀ y, y < 5 → lw_tbl[zPosC.getD (35 + y) 0]? = some (.code (zM_ (35 + y)).1 (zM_ (35 + y)).2.1 (zM_ (35 + y)).2.2.1 (zM_ (35 + y)).2.2.2) ∧ goodWord (.code (zM_ (35 + y)).1 (zM_ (35 + y)).2.1 (zM_ (35 + y)).2.2.1 (zM_ (35 + y)).2.2.2) = true ∧ plainName (zM_ (35 + y)).1.cls = true := by decide +kernel
set_option maxRecDepth 100000 in
theorem zcd_8 : ∀ y, y < 5 → lw_tbl[zPosC.getD (40 + y) 0]? = some (.code (zM_ (40 + y)).1 (zM_ (40 + y)).2.1 (zM_ (40 + y)).2.2.1 (zM_ (40 + y)).2.2.2) ∧ goodWord (.code (zM_ (40 + y)).1 (zM_ (40 + y)).2.1 (zM_ (40 + y)).2.2.1 (zM_ (40 + y)).2.2.2) = true ∧ plainName (zM_ (40 + y)).1.cls = true := by decide +kernel
set_option maxRecDepth 100000 in
theorem zcd_9 : ∀ y, y < 5 → lw_tbl[zPosC.getD (45 + y) 0]? = some (.code (zM_ (45 + y)).1 (zM_ (45 + y)).2.1 (zM_ (45 + y)).2.2.1 (zM_ (45 + y)).2.2.2) ∧ goodWord (.code (zM_ (45 + y)).1 (zM_ (45 + y)).2.1 (zM_ (45 + y)).2.2.1 (zM_ (45 + y)).2.2.2) = true ∧ plainName (zM_ (45 + y)).1.cls = true := by decide +kernel
set_option maxRecDepth 100000 in
theorem zcd_10 : ∀ y, y < 5 → lw_tbl[zPosC.getD (50 + y) 0]? = some (.code (zM_ (50 + y)).1 (zM_ (50 + y)).2.1 (zM_ (50 + y)).2.2.1 (zM_ (50 + y)).2.2.2) ∧ goodWord (.code (zM_ (50 + y)).1 (zM_ (50 + y)).2.1 (zM_ (50 + y)).2.2.1 (zM_ (50 + y)).2.2.2) = true ∧ plainName (zM_ (50 + y)).1.cls = true := by decide +kernel
set_option maxRecDepth 100000 in
theorem zcd_11 : ∀ y, y < 5 → lw_tbl[zPosC.getD (55 + y) 0]? = some (.code (zM_ (55 + y)).1 (zM_ (55 + y)).2.1 (zM_ (55 + y)).2.2.1 (zM_ (55 + y)).2.2.2) ∧ goodWord (.code (zM_ (55 + y)).1 (zM_ (55 + y)).2.1 (zM_ (55 + y)).2.2.1 (zM_ (55 + y)).2.2.2) = true ∧ plainName (zM_ (55 + y)).1.cls = true := by decide +kernel
set_option maxRecDepth 100000 in
theorem zcd_12 : ∀ y, y < 5 → lw_tbl[zPosC.getD (60 + y) 0]? = some (.code (zM_ (60 + y)).1 (zM_ (60 + y)).2.1 (zM_ (60 + y)).2.2.1 (zM_ (60 + y)).2.2.2) ∧ goodWord (.code (zM_ (60 + y)).1 (zM_ (60 + y)).2.1 (zM_ (60 + y)).2.2.1 (zM_ (60 + y)).2.2.2) = true ∧ plainName (zM_ (60 + y)).1.cls = true := by decide +kernel
set_option maxRecDepth 100000 in
theorem zcd_13 : ∀ y, y < 5 → lw_tbl[zPosC.getD (65 + y) 0]? = some (.code (zM_ (65 + y)).1 (zM_ (65 + y)).2.1 (zM_ (65 + y)).2.2.1 (zM_ (65 + y)).2.2.2) ∧ goodWord (.code (zM_ (65 + y)).1 (zM_ (65 + y)).2.1 (zM_ (65 + y)).2.2.1 (zM_ (65 + y)).2.2.2) = true ∧ plainName (zM_ (65 + y)).1.cls = true := by decide +kernel
set_option maxRecDepth 100000 in
theorem zcd_14 : ∀ y, y < 5 → lw_tbl[zPosC.getD (70 + y) 0]? = some (.code (zM_ (70 + y)).1 (zM_ (70 + y)).2.1 (zM_ (70 + y)).2.2.1 (zM_ (70 + y)).2.2.2) ∧ goodWord (.code (zM_ (70 + y)).1 (zM_ (70 + y)).2.1 (zM_ (70 + y)).2.2.1 (zM_ (70 + y)).2.2.2) = true ∧ plainName (zM_ (70 + y)).1.cls = true := by decide +kernel
set_option maxRecDepth 100000 in
theorem zcd_15 : ∀ y, y < 5 → lw_tbl[zPosC.getD (75 + y) 0]? = some (.code (zM_ (75 + y)).1 (zM_ (75 + y)).2.1 (zM_ (75 + y)).2.2.1 (zM_ (75 + y)).2.2.2) ∧ goodWord (.code (zM_ (75 + y)).1 (zM_ (75 + y)).2.1 (zM_ (75 + y)).2.2.1 (zM_ (75 + y)).2.2.2) = true ∧ plainName (zM_ (75 + y)).1.cls = true := by decide +kernel
set_option maxRecDepth 100000 in
theorem zcd_16 : ∀ y, y < 5 → lw_tbl[zPosC.getD (80 + y) 0]? = some (.code (zM_ (80 + y)).1 (zM_ (80 + y)).2.1 (zM_ (80 + y)).2.2.1 (zM_ (80 + y)).2.2.2) ∧ goodWord (.code (zM_ (80 + y)).1 (zM_ (80 + y)).2.1 (zM_ (80 + y)).2.2.1 (zM_ (80 + y)).2.2.2) = true ∧ plainName (zM_ (80 + y)).1.cls = true := by decide +kernel
set_option maxRecDepth 100000 in
theorem zcd_17 : ∀ y, y < 5 → lw_tbl[zPosC.getD (85 + y) 0]? = some (.code (zM_ (85 + y)).1 (zM_ (85 + y)).2.1 (zM_ (85 + y)).2.2.1 (zM_ (85 + y)).2.2.2) ∧ goodWord (.code (zM_ (85 + y)).1 (zM_ (85 + y)).2.1 (zM_ (85 + y)).2.2.1 (zM_ (85 + y)).2.2.2) = true ∧ plainName (zM_ (85 + y)).1.cls = true := by decide +kernel
set_option maxRecDepth 100000 in
theorem zcd_18 : ∀ y, y < 5 → lw_tbl[zPosC.getD (90 + y) 0]? = some (.code (zM_ (90 + y)).1 (zM_ (90 + y)).2.1 (zM_ (90 + y)).2.2.1 (zM_ (90 + y)).2.2.2) ∧ goodWord (.code (zM_ (90 + y)).1 (zM_ (90 + y)).2.1 (zM_ (90 + y)).2.2.1 (zM_ (90 + y)).2.2.2) = true ∧ plainName (zM_ (90 + y)).1.cls = true := by decide +kernel
set_option maxRecDepth 100000 in
theorem zcd_19 : ∀ y, y < 5 → lw_tbl[zPosC.getD (95 + y) 0]? = some (.code (zM_ (95 + y)).1 (zM_ (95 + y)).2.1 (zM_ (95 + y)).2.2.1 (zM_ (95 + y)).2.2.2) ∧ goodWord (.code (zM_ (95 + y)).1 (zM_ (95 + y)).2.1 (zM_ (95 + y)).2.2.1 (zM_ (95 + y)).2.2.2) = true ∧ plainName (zM_ (95 + y)).1.cls = true := by decide +kernel
set_option maxRecDepth 100000 in
theorem zcd_20 : ∀ y, y < 5 → lw_tbl[zPosC.getD (100 + y) 0]? = some (.code (zM_ (100 + y)).1 (zM_ (100 + y)).2.1 (zM_ (100 + y)).2.2.1 (zM_ (100 + y)).2.2.2) ∧ goodWord (.code (zM_ (100 + y)).1 (zM_ (100 + y)).2.1 (zM_ (100 + y)).2.2.1 (zM_ (100 + y)).2.2.2) = true ∧ plainName (zM_ (100 + y)).1.cls = true := by decide +kernel
set_option maxRecDepth 100000 in
theorem zcd_21 : ∀ y, y < 5 → lw_tbl[zPosC.getD (105 + y) 0]? = some (.code (zM_ (105 + y)).1 (zM_ (105 + y)).2.1 (zM_ (105 + y)).2.2.1 (zM_ (105 + y)).2.2.2) ∧ goodWord (.code (zM_ (105 + y)).1 (zM_ (105 + y)).2.1 (zM_ (105 + y)).2.2.1 (zM_ (105 + y)).2.2.2) = true ∧ plainName (zM_ (105 + y)).1.cls = true := by decide +kernel
set_option maxRecDepth 100000 in
theorem zcd_22 : ∀ y, y < 5 → lw_tbl[zPosC.getD (110 + y) 0]? = some (.code (zM_ (110 + y)).1 (zM_ (110 + y)).2.1 (zM_ (110 + y)).2.2.1 (zM_ (110 + y)).2.2.2) ∧ goodWord (.code (zM_ (110 + y)).1 (zM_ (110 + y)).2.1 (zM_ (110 + y)).2.2.1 (zM_ (110 + y)).2.2.2) = true ∧ plainName (zM_ (110 + y)).1.cls = true := by decide +kernel
set_option maxRecDepth 100000 in
theorem zcd_23 : ∀ y, y < 5 → lw_tbl[zPosC.getD (115 + y) 0]? = some (.code (zM_ (115 + y)).1 (zM_ (115 + y)).2.1 (zM_ (115 + y)).2.2.1 (zM_ (115 + y)).2.2.2) ∧ goodWord (.code (zM_ (115 + y)).1 (zM_ (115 + y)).2.1 (zM_ (115 + y)).2.2.1 (zM_ (115 + y)).2.2.2) = true ∧ plainName (zM_ (115 + y)).1.cls = true := by decide +kernel
set_option maxRecDepth 100000 in
theorem zcd_24 : ∀ y, y < 5 → lw_tbl[zPosC.getD (120 + y) 0]? = some (.code (zM_ (120 + y)).1 (zM_ (120 + y)).2.1 (zM_ (120 + y)).2.2.1 (zM_ (120 + y)).2.2.2) ∧ goodWord (.code (zM_ (120 + y)).1 (zM_ (120 + y)).2.1 (zM_ (120 + y)).2.2.1 (zM_ (120 + y)).2.2.2) = true ∧ plainName (zM_ (120 + y)).1.cls = true := by decide +kernel
set_option maxRecDepth 100000 in
theorem zcd_25 : ∀ y, y < 5 → lw_tbl[zPosC.getD (125 + y) 0]? = some (.code (zM_ (125 + y)).1 (zM_ (125 + y)).2.1 (zM_ (125 + y)).2.2.1 (zM_ (125 + y)).2.2.2) ∧ goodWord (.code (zM_ (125 + y)).1 (zM_ (125 + y)).2.1 (zM_ (125 + y)).2.2.1 (zM_ (125 + y)).2.2.2) = true ∧ plainName (zM_ (125 + y)).1.cls = true := by decide +kernel
set_option maxRecDepth 100000 in
theorem zcd_26 : ∀ y, y < 5 → lw_tbl[zPosC.getD (130 + y) 0]? = some (.code (zM_ (130 + y)).1 (zM_ (130 + y)).2.1 (zM_ (130 + y)).2.2.1 (zM_ (130 + y)).2.2.2) ∧ goodWord (.code (zM_ (130 + y)).1 (zM_ (130 + y)).2.1 (zM_ (130 + y)).2.2.1 (zM_ (130 + y)).2.2.2) = true ∧ plainName (zM_ (130 + y)).1.cls = true := by decide +kernel
set_option maxRecDepth 100000 in
theorem zcd_27 : ∀ y, y < 5 → lw_tbl[zPosC.getD (135 + y) 0]? = some (.code (zM_ (135 + y)).1 (zM_ (135 + y)).2.1 (zM_ (135 + y)).2.2.1 (zM_ (135 + y)).2.2.2) ∧ goodWord (.code (zM_ (135 + y)).1 (zM_ (135 + y)).2.1 (zM_ (135 + y)).2.2.1 (zM_ (135 + y)).2.2.2) = true ∧ plainName (zM_ (135 + y)).1.cls = true := by decide +kernel
set_option maxRecDepth 100000 in
theorem zcd_28 : ∀ y, y < 5 → lw_tbl[zPosC.getD (140 + y) 0]? = some (.code (zM_ (140 + y)).1 (zM_ (140 + y)).2.1 (zM_ (140 + y)).2.2.1 (zM_ (140 + y)).2.2.2) ∧ goodWord (.code (zM_ (140 + y)).1 (zM_ (140 + y)).2.1 (zM_ (140 + y)).2.2.1 (zM_ (140 + y)).2.2.2) = true ∧ plainName (zM_ (140 + y)).1.cls = true := by decide +kernel
set_option maxRecDepth 100000 in
theorem zcd_29 : ∀ y, y < 5 → lw_tbl[zPosC.getD (145 + y) 0]? = some (.code (zM_ (145 + y)).1 (zM_ (145 + y)).2.1 (zM_ (145 + y)).2.2.1 (zM_ (145 + y)).2.2.2) ∧ goodWord (.code (zM_ (145 + y)).1 (zM_ (145 + y)).2.1 (zM_ (145 + y)).2.2.1 (zM_ (145 + y)).2.2.2) = true ∧ plainName (zM_ (145 + y)).1.cls = true := by decide +kernel
set_option maxRecDepth 100000 in
theorem zcd_30 : ∀ y, y < 5 → lw_tbl[zPosC.getD (150 + y) 0]? = some (.code (zM_ (150 + y)).1 (zM_ (150 + y)).2.1 (zM_ (150 + y)).2.2.1 (zM_ (150 + y)).2.2.2) ∧ goodWord (.code (zM_ (150 + y)).1 (zM_ (150 + y)).2.1 (zM_ (150 + y)).2.2.1 (zM_ (150 + y)).2.2.2) = true ∧ plainName (zM_ (150 + y)).1.cls = true := by decide +kernel
set_option maxRecDepth 100000 in
theorem zcd_31 : ∀ y, y < 5 → lw_tbl[zPosC.getD (155 + y) 0]? = some (.code (zM_ (155 + y)).1 (zM_ (155 + y)).2.1 (zM_ (155 + y)).2.2.1 (zM_ (155 + y)).2.2.2) ∧ goodWord (.code (zM_ (155 + y)).1 (zM_ (155 + y)).2.1 (zM_ (155 + y)).2.2.1 (zM_ (155 + y)).2.2.2) = true ∧ plainName (zM_ (155 + y)).1.cls = true := by decide +kernel
set_option maxRecDepth 100000 in
theorem zcd_32 : ∀ y, y < 5 → lw_tbl[zPosC.getD (160 + y) 0]? = some (.code (zM_ (160 + y)).1 (zM_ (160 + y)).2.1 (zM_ (160 + y)).2.2.1 (zM_ (160 + y)).2.2.2) ∧ goodWord (.code (zM_ (160 + y)).1 (zM_ (160 + y)).2.1 (zM_ (160 + y)).2.2.1 (zM_ (160 + y)).2.2.2) = true ∧ plainName (zM_ (160 + y)).1.cls = true := by decide +kernel
set_option maxRecDepth 100000 in
theorem zcd_33 : ∀ y, y < 5 → lw_tbl[zPosC.getD (165 + y) 0]? = some (.code (zM_ (165 + y)).1 (zM_ (165 + y)).2.1 (zM_ (165 + y)).2.2.1 (zM_ (165 + y)).2.2.2) ∧ goodWord (.code (zM_ (165 + y)).1 (zM_ (165 + y)).2.1 (zM_ (165 + y)).2.2.1 (zM_ (165 + y)).2.2.2) = true ∧ plainName (zM_ (165 + y)).1.cls = true := by decide +kernel
set_option maxRecDepth 100000 in
theorem zcd_34 : ∀ y, y < 5 → lw_tbl[zPosC.getD (170 + y) 0]? = some (.code (zM_ (170 + y)).1 (zM_ (170 + y)).2.1 (zM_ (170 + y)).2.2.1 (zM_ (170 + y)).2.2.2) ∧ goodWord (.code (zM_ (170 + y)).1 (zM_ (170 + y)).2.1 (zM_ (170 + y)).2.2.1 (zM_ (170 + y)).2.2.2) = true ∧ plainName (zM_ (170 + y)).1.cls = true := by decide +kernel
set_option maxRecDepth 100000 in
theorem zcd_35 : ∀ y, y < 5 → lw_tbl[zPosC.getD (175 + y) 0]? = some (.code (zM_ (175 + y)).1 (zM_ (175 + y)).2.1 (zM_ (175 + y)).2.2.1 (zM_ (175 + y)).2.2.2) ∧ goodWord (.code (zM_ (175 + y)).1 (zM_ (175 + y)).2.1 (zM_ (175 + y)).2.2.1 (zM_ (175 + y)).2.2.2) = true ∧ plainName (zM_ (175 + y)).1.cls = true := by decide +kernel
set_option maxRecDepth 100000 in
theorem zcd_36 : ∀ y, y < 5 → lw_tbl[zPosC.getD (180 + y) 0]? = some (.code (zM_ (180 + y)).1 (zM_ (180 + y)).2.1 (zM_ (180 + y)).2.2.1 (zM_ (180 + y)).2.2.2) ∧ goodWord (.code (zM_ (180 + y)).1 (zM_ (180 + y)).2.1 (zM_ (180 + y)).2.2.1 (zM_ (180 + y)).2.2.2) = true ∧ plainName (zM_ (180 + y)).1.cls = true := by decide +kernel
set_option maxRecDepth 100000 in
theorem zcd_37 : ∀ y, y < 5 → lw_tbl[zPosC.getD (185 + y) 0]? = some (.code (zM_ (185 + y)).1 (zM_ (185 + y)).2.1 (zM_ (185 + y)).2.2.1 (zM_ (185 + y)).2.2.2) ∧ goodWord (.code (zM_ (185 + y)).1 (zM_ (185 + y)).2.1 (zM_ (185 + y)).2.2.1 (zM_ (185 + y)).2.2.2) = true ∧ plainName (zM_ (185 + y)).1.cls = true := by decide +kernel
set_option maxRecDepth 100000 in
theorem zcd_38 : ∀ y, y < 5 → lw_tbl[zPosC.getD (190 + y) 0]? = some (.code (zM_ (190 + y)).1 (zM_ (190 + y)).2.1 (zM_ (190 + y)).2.2.1 (zM_ (190 + y)).2.2.2) ∧ goodWord (.code (zM_ (190 + y)).1 (zM_ (190 + y)).2.1 (zM_ (190 + y)).2.2.1 (zM_ (190 + y)).2.2.2) = true ∧ plainName (zM_ (190 + y)).1.cls = true := by decide +kernel
theorem zcode_ok (y : Nat) (hy : y < 195) : lw_tbl[zPosC.getD y 0]? = some (.code (zM_ y).1 (zM_ y).2.1 (zM_ y).2.2.1 (zM_ y).2.2.2) ∧ goodWord (.code (zM_ y).1 (zM_ y).2.1 (zM_ y).2.2.1 (zM_ y).2.2.2) = true ∧ plainName (zM_ y).1.cls = true := by
  have e : 5 * (y / 5) + y % 5 = y := by omega
  have hm : y % 5 < 5 := by omega
  generalize y % 5 = m at e hm
  have hk : y / 5 < 39 := by omega
  generalize y / 5 = k at e hk
  subst e
  match k, hk with
  | 0, _ => exact zcd_0 m hm
  | 1, _ => exact zcd_1 m hm
  | 2, _ => exact zcd_2 m hm
  | 3, _ => exact zcd_3 m hm
  | 4, _ => exact zcd_4 m hm
  | 5, _ => exact zcd_5 m hm
  | 6, _ => exact zcd_6 m hm
  | 7, _ => exact zcd_7 m hm
  | 8, _ => exact zcd_8 m hm
  | 9, _ => exact zcd_9 m hm
  | 10, _ => exact zcd_10 m hm
  | 11, _ => exact zcd_11 m hm
  | 12, _ => exact zcd_12 m hm
  | 13, _ => exact zcd_13 m hm
  | 14, _ => exact zcd_14 m hm
  | 15, _ => exact zcd_15 m hm
  | 16, _ => exact zcd_16 m hm
  | 17, _ => exact zcd_17 m hm
  | 18, _ => exact zcd_18 m hm
  | 19, _ => exact zcd_19 m hm
  | 20, _ => exact zcd_20 m hm
  | 21, _ => exact zcd_21 m hm
  | 22, _ => exact zcd_22 m hm
  | 23, _ => exact zcd_23 m hm
  | 24, _ => exact zcd_24 m hm
  | 25, _ => exact zcd_25 m hm
  | 26, _ => exact zcd_26 m hm
  | 27, _ => exact zcd_27 m hm
  | 28, _ => exact zcd_28 m hm
  | 29, _ => exact zcd_29 m hm
  | 30, _ => exact zcd_30 m hm
  | 31, _ => exact zcd_31 m hm
  | 32, _ => exact zcd_32 m hm
  | 33, _ => exact zcd_33 m hm
  | 34, _ => exact zcd_34 m hm
  | 35, _ => exact zcd_35 m hm
  | 36, _ => exact zcd_36 m hm
  | 37, _ => exact zcd_37 m hm
  | 38, _ => exact zcd_38 m hm
  | k + 39, h => omega
theorem mem_zGood {w : Cond} (h : w ∈ lw_tbl) (hg : goodWord w = true) : w ∈ zGood := List.mem_filter.mpr ⟨h, hg⟩
/-- an instruction of the tables: what decode says, the numbers, its words -/
theorem z_ins {y pc : Nat} {p : zP} (hy : y < 196) (h : (pc, p) ∈ zC y) : decode (zM_ y).2.1 pc = .ok (p.1, p.2.1) ∧ zON y pc p = true ∧ (∀ w ∈ zLW (zM_ y).1.cls p, w ∈ zGood) ∧ ∀ w ∈ zLN (zM_ y).1.cls p, w ∈ zNest := by
  obtain ⟨i, hi⟩ := List.getElem?_of_mem h
  have hlt := (List.getElem?_eq_some_iff.mp hi).1
  have hlen := zKs_ok y hy
  have hc : (pc, p) ∈ zchunk y (i / 25) := by
    unfold zchunk
    refine List.mem_of_getElem? (i := i % 25) ?_
    rw [List.getElem?_take, if_pos (by omega), List.getElem?_drop, show 25 * (i / 25) + i % 25 = i by omega]
    exact hi
  obtain ⟨g1, g2, g3⟩ := zok_all y (i / 25) hy (by omega)
  have h1 := List.all_eq_true.mp g1 _ hc
  simp only [Bool.and_eq_true, decide_eq_true_eq, List.all_eq_true] at h1
  refine ⟨h1.1.1, h1.1.2, fun w hw => ?_, h1.2⟩
  have h2 : some w ∈ ((zPos.getD y []).getD (i / 25) []).map (fun i => lw_tbl[i]?) := by
    rw [← g3]
    exact List.mem_map.mpr ⟨w, List.mem_flatMap.mpr ⟨_, hc, hw⟩, rfl⟩
  obtain ⟨i, hi, he⟩ := List.mem_map.mp h2
  have h3 := List.all_eq_true.mp g2 i hi
  rw [he] at h3
  exact mem_zGood (List.mem_of_getElem? he) h3
theorem z_code {y : Nat} (hy : y < 195) : Cond.code (zM_ y).1 (zM_ y).2.1 (zM_ y).2.2.1 (zM_ y).2.2.2 ∈ zGood := mem_zGood (List.mem_of_getElem? (zcode_ok y hy).1) (zcode_ok y hy).2.1
