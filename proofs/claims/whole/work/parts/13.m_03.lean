/-! ===== SleightHouseModel.held(III)I ===== -/
def mX12_held : nY := (RX12, yX12_held, cX12_held, 4, some .int)
theorem okX12_held : n_MOK mX12_held 3 := ⟨w_1892, w_151, ⟨by decide +kernel, by decide +kernel, by decide +kernel⟩, by decide⟩
abbrev aX12_held : List (Nat × nO (Int32 × nM)) := [(0, o_iload 1 1), (1, o_iload 2 2), (2, oc_ge 9 5), (5, o_iload 2 6), (6, o_goto 19), (9, o_iload 1 10), (10, o_iload 3 11), (11, oc_le 18 14), (14, o_iload 3 15), (15, o_goto 19), (18, o_iload 1 19), (19, o_iret)]
set_option maxRecDepth 200000 in
theorem iX12_held {l : Launch} {w : nW} {G : nG} : n_AllS l w 0 mX12_held G (n_fin dv_i G) (aX12_held) :=
  n_c (s_iload_n (pc := 0) (k := 1) (by decide +kernel)) <|
  n_c (s_iload_n (pc := 1) (k := 2) (by decide +kernel)) <|
  n_c (s_icmp_ge (pc := 2) (off := 7) (by decide +kernel) (by decide +kernel)) <|
  n_c (s_iload_n (pc := 5) (k := 2) (by decide +kernel)) <|
  n_c (s_goto (pc := 6) (off := 13) (by decide +kernel) (by decide +kernel)) <|
  n_c (s_iload_n (pc := 9) (k := 1) (by decide +kernel)) <|
  n_c (s_iload_n (pc := 10) (k := 3) (by decide +kernel)) <|
  n_c (s_icmp_le (pc := 11) (off := 7) (by decide +kernel) (by decide +kernel)) <|
  n_c (s_iload_n (pc := 14) (k := 3) (by decide +kernel)) <|
  n_c (s_goto (pc := 15) (off := 4) (by decide +kernel) (by decide +kernel)) <|
  n_c (s_iload_n (pc := 18) (k := 1) (by decide +kernel)) <|
  n_c (s_iret (pc := 19) rfl (by decide +kernel)) <|
  n_e
def fX12_held (x1 : Int32) (x2 : Int32) (x3 : Int32) (M : nM) : Option (Int32 × nM) :=
  if x2 ≤ x1 then
    if x1 ≤ x3 then
      some (x1, M)
    else
      some (x3, M)
  else
    some (x2, M)
set_option maxRecDepth 200000 in
theorem bX12_held_0 {l : Launch} {w : nW} {G : nG} (x1 : Int32) (x2 : Int32) (x3 : Int32) (M : nM) (r : Int32 × nM) (h : fX12_held x1 x2 x3 M = some r) : n_At l w 0 mX12_held 0 [(1, .int x1), (2, .int x2), (3, .int x3)] [] (G, M) (dv_i r.1, (G, r.2)) :=
  n_seg (fin := n_fin dv_i G) (K := []) 17 (iX12_held) n_ke (by rfl) h
theorem eX12_held {l : Launch} {w : nW} {G : nG} (z1 : Int32) (z2 : Int32) (z3 : Int32) (M : nM) (r : Int32 × nM) (h : fX12_held z1 z2 z3 M = some r) : n_Met l w 0 mX12_held [.ref 107, .int z1, .int z2, .int z3] (G, M) (dv_i r.1, (G, r.2)) :=
  n_entry (by decide +kernel) rfl (Nat.le_of_ble_eq_true rfl) (n_sub (lv := [(0, .ref 107), (1, .int z1), (2, .int z2), (3, .int z3)]) (n_qc rfl (n_qc rfl (n_qc rfl n_qe))) (bX12_held_0 z1 z2 z3 M r h))
abbrev hX12_held : nF := fun T as M k => n_pC 107 as (fun as => n_pI as (fun z1 as => n_pI as (fun z2 as => n_pI as (fun z3 as => n_pE as ((fX12_held z1 z2 z3 M).bind fun p => k (dv_i p.1) p.2)))))
theorem csX12_held {l : Launch} {w : nW} {G : nG} : n_CS l w 0 mX12_held G (hX12_held) := fun T as M k r h => by
  obtain ⟨t0, rfl, h1⟩ := n_pC_x h
  obtain ⟨z1, t1, rfl, h2⟩ := n_pI_x h1
  obtain ⟨z2, t2, rfl, h3⟩ := n_pI_x h2
  obtain ⟨z3, t3, rfl, h4⟩ := n_pI_x h3
  obtain ⟨rfl, hE⟩ := n_pE_x h4
  obtain ⟨p, hp, hk⟩ := Option.bind_eq_some_iff.mp hE
  exact ⟨_, _, eX12_held z1 z2 z3 M p hp, hk⟩
/-! ===== SleightHouseModel.lawTells(IIIII)I ===== -/
def mX12_lawTells : nY := (RX12, yX12_lawTells, cX12_lawTells, 8, some .int)
theorem okX12_lawTells : n_MOK mX12_lawTells 5 := ⟨w_1876, w_151, ⟨by decide +kernel, by decide +kernel, by decide +kernel⟩, by decide⟩
abbrev aX12_lawTells (N : Nat) : List (Nat × nO (Int32 × nM)) := [(0, o_aload 0 1), (1, o_gRc 107 131 4), (4, o_push (.int (0 : Int32)) 5), (5, o_aload 0 6), (6, o_gRc 107 114 9), (9, o_iload 1 10), (10, o_aldc 114 12 11), (11, o_iastc 131 11 12), (12, o_aload 0 13), (13, o_gRc 107 131 16), (16, o_push (.int (1 : Int32)) 17), (17, o_aload 0 18), (18, o_gRc 107 115 21), (21, o_iload 1 22), (22, o_aldc 115 12 23), (23, o_iastc 131 11 24), (24, o_aload 0 25), (25, o_gRc 107 131 28), (28, o_push (.int (2 : Int32)) 29), (29, o_aload 0 30), (30, o_gRc 107 112 33), (33, o_iload 2 34), (34, o_aldc 112 16 35), (35, o_iastc 131 11 36), (36, o_aload 0 37), (37, o_gRc 107 131 40), (40, o_push (.int (3 : Int32)) 41), (41, o_aload 0 42), (42, o_gRc 107 113 45), (45, o_iload 2 46), (46, o_aldc 113 16 47), (47, o_iastc 131 11 48), (48, o_aload 0 49), (49, o_gRc 107 131 52), (52, o_push (.int (4 : Int32)) 53), (53, o_iload 3 54), (54, o_iastc 131 11 55), (55, o_aload 0 56), (56, o_gRc 107 131 59), (59, o_push (.int (5 : Int32)) 60), (60, o_aload 0 61), (61, o_iload 3 62), (62, o_callVc 107 1 (hX12_fullOf N) 65), (65, o_iastc 131 11 66), (66, o_aload 0 67), (67, o_gRc 107 131 70), (70, o_push (.int (6 : Int32)) 72), (72, o_aload 0 73), (73, o_gRc 107 108 76), (76, o_push (.int (4 : Int32)) 77), (77, o_iload 3 78), (78, o_iadd 79), (79, o_aldc 108 100 80), (80, o_iastc 131 11 81), (81, o_aload 0 82), (82, o_gRc 107 131 85), (85, o_push (.int (7 : Int32)) 87), (87, o_aload 0 88), (88, o_gRc 107 108 91), (91, o_push (.int (44 : Int32)) 93), (93, o_iload 2 94), (94, o_iadd 95), (95, o_aldc 108 100 96), (96, o_iastc 131 11 97), (97, o_aload 0 98), (98, o_gRc 107 131 101), (101, o_push (.int (8 : Int32)) 103), (103, o_aload 0 104), (104, o_gRc 107 108 107), (107, o_push (.int (60 : Int32)) 109), (109, o_iload 2 110), (110, o_iadd 111), (111, o_aldc 108 100 112), (112, o_iastc 131 11 113), (113, o_aload 0 114), (114, o_gRc 107 131 117), (117, o_push (.int (9 : Int32)) 119), (119, o_aload 0 120), (120, o_gRc 107 108 123), (123, o_push (.int (88 : Int32)) 125), (125, o_iload 1 126), (126, o_iadd 127), (127, o_aldc 108 100 128), (128, o_iastc 131 11 129), (129, o_aload 0 130), (130, o_gRc 107 131 133), (133, o_push (.int (10 : Int32)) 135), (135, o_aload 0 136), (136, o_gRc 107 108 139), (139, o_push (.int (0 : Int32)) 140), (140, o_aldc 108 100 141), (141, o_iastc 131 11 142), (142, o_aload 0 143), (143, o_iload 4 145), (145, o_callVc 107 1 (hX12_lineOf N) 148), (148, o_istore 8 6 150), (150, o_iload 4 152), (152, oi_ne 177 155), (155, o_push (.int (80 : Int32)) 157), (157, o_aload 0 158), (158, o_gRc 107 114 161), (161, o_iload 1 162), (162, o_aldc 114 12 163), (163, o_imul 164), (164, o_push (.int (20 : Int32)) 166), (166, o_aload 0 167), (167, o_gRc 107 112 170), (170, o_iload 2 171), (171, o_aldc 112 16 172), (172, o_imul 173), (173, o_isub 174), (174, o_goto 207), (177, o_iload 4 179), (179, o_push (.int (1 : Int32)) 180), (180, oc_ne 194 183), (183, o_push (.int (1 : Int32)) 184), (184, o_aload 0 185), (185, o_gRc 107 114 188), (188, o_iload 1 189), (189, o_aldc 114 12 190), (190, o_iadd 191), (191, o_goto 207), (194, o_push (.int (500 : Int32)) 197), (197, o_push (.int (50 : Int32)) 199), (199, o_aload 0 200), (200, o_gRc 107 115 203), (203, o_iload 1 204), (204, o_aldc 115 12 205), (205, o_imul 206), (206, o_iadd 207), (207, o_istore 8 7 209), (209, o_aload 0 210), (210, o_iload 6 212), (212, o_push (.int (-1 : Int32)) 213), (213, oc_ne 221 216), (216, o_iload 7 218), (218, o_goto 240), (221, o_aload 0 222), (222, o_push (.int (0 : Int32)) 223), (223, o_aload 0 224), (224, o_gRc 107 121 227), (227, o_iload 6 229), (229, o_aldc 121 48 230), (230, o_aload 0 231), (231, o_gRc 107 122 234), (234, o_iload 6 236), (236, o_aldc 122 48 237), (237, o_callVc 107 3 (hX12_runs N) 240), (240, o_push (.int (0 : Int32)) 241), (241, o_iload 5 243), (243, o_callVc 107 3 (hX12_held) 246), (246, o_iret)]
set_option maxRecDepth 200000 in
theorem iX12_lawTells {l : Launch} {w : nW} (N : Nat) {G : nG} (hG : n_GOK G) : n_AllS l w 3 mX12_lawTells G (n_fin dv_i G) (aX12_lawTells N) :=
  n_c (s_aload_n (pc := 0) (k := 0) (by decide +kernel)) <|
  n_c (s_gRc (s_getR (pc := 1) (ci := 12) (k := 44) (idx := 83) nok12 (by decide) rfl (by decide +kernel) w_1451) (gk107 hG) (gm107_44 hG)) <|
  n_c (s_iconst (pc := 4) (n := 0) (by decide +kernel) (by decide +kernel)) <|
  n_c (s_aload_n (pc := 5) (k := 0) (by decide +kernel)) <|
  n_c (s_gRc (s_getR (pc := 6) (ci := 12) (k := 11) (idx := 28) nok12 (by decide) rfl (by decide +kernel) w_1418) (gk107 hG) (gm107_11 hG)) <|
  n_c (s_iload_n (pc := 9) (k := 1) (by decide +kernel)) <|
  n_c (s_aldc (s_iaload (pc := 10) (by decide +kernel)) (gk114 hG) (gl114 hG)) <|
  n_c (s_iastc (s_iastore (pc := 11) (by decide +kernel)) (gk131 hG) (gl131 hG)) <|
  n_c (s_aload_n (pc := 12) (k := 0) (by decide +kernel)) <|
  n_c (s_gRc (s_getR (pc := 13) (ci := 12) (k := 44) (idx := 83) nok12 (by decide) rfl (by decide +kernel) w_1451) (gk107 hG) (gm107_44 hG)) <|
  n_c (s_iconst (pc := 16) (n := 1) (by decide +kernel) (by decide +kernel)) <|
  n_c (s_aload_n (pc := 17) (k := 0) (by decide +kernel)) <|
  n_c (s_gRc (s_getR (pc := 18) (ci := 12) (k := 12) (idx := 31) nok12 (by decide) rfl (by decide +kernel) w_1419) (gk107 hG) (gm107_12 hG)) <|
  n_c (s_iload_n (pc := 21) (k := 1) (by decide +kernel)) <|
  n_c (s_aldc (s_iaload (pc := 22) (by decide +kernel)) (gk115 hG) (gl115 hG)) <|
  n_c (s_iastc (s_iastore (pc := 23) (by decide +kernel)) (gk131 hG) (gl131 hG)) <|
  n_c (s_aload_n (pc := 24) (k := 0) (by decide +kernel)) <|
  n_c (s_gRc (s_getR (pc := 25) (ci := 12) (k := 44) (idx := 83) nok12 (by decide) rfl (by decide +kernel) w_1451) (gk107 hG) (gm107_44 hG)) <|
  n_c (s_iconst (pc := 28) (n := 2) (by decide +kernel) (by decide +kernel)) <|
  n_c (s_aload_n (pc := 29) (k := 0) (by decide +kernel)) <|
  n_c (s_gRc (s_getR (pc := 30) (ci := 12) (k := 9) (idx := 22) nok12 (by decide) rfl (by decide +kernel) w_1416) (gk107 hG) (gm107_9 hG)) <|
  n_c (s_iload_n (pc := 33) (k := 2) (by decide +kernel)) <|
  n_c (s_aldc (s_iaload (pc := 34) (by decide +kernel)) (gk112 hG) (gl112 hG)) <|
  n_c (s_iastc (s_iastore (pc := 35) (by decide +kernel)) (gk131 hG) (gl131 hG)) <|
  n_c (s_aload_n (pc := 36) (k := 0) (by decide +kernel)) <|
  n_c (s_gRc (s_getR (pc := 37) (ci := 12) (k := 44) (idx := 83) nok12 (by decide) rfl (by decide +kernel) w_1451) (gk107 hG) (gm107_44 hG)) <|
  n_c (s_iconst (pc := 40) (n := 3) (by decide +kernel) (by decide +kernel)) <|
  n_c (s_aload_n (pc := 41) (k := 0) (by decide +kernel)) <|
  n_c (s_gRc (s_getR (pc := 42) (ci := 12) (k := 10) (idx := 25) nok12 (by decide) rfl (by decide +kernel) w_1417) (gk107 hG) (gm107_10 hG)) <|
  n_c (s_iload_n (pc := 45) (k := 2) (by decide +kernel)) <|
  n_c (s_aldc (s_iaload (pc := 46) (by decide +kernel)) (gk113 hG) (gl113 hG)) <|
  n_c (s_iastc (s_iastore (pc := 47) (by decide +kernel)) (gk131 hG) (gl131 hG)) <|
  n_c (s_aload_n (pc := 48) (k := 0) (by decide +kernel)) <|
  n_c (s_gRc (s_getR (pc := 49) (ci := 12) (k := 44) (idx := 83) nok12 (by decide) rfl (by decide +kernel) w_1451) (gk107 hG) (gm107_44 hG)) <|
  n_c (s_iconst (pc := 52) (n := 4) (by decide +kernel) (by decide +kernel)) <|
  n_c (s_iload_n (pc := 53) (k := 3) (by decide +kernel)) <|
  n_c (s_iastc (s_iastore (pc := 54) (by decide +kernel)) (gk131 hG) (gl131 hG)) <|
  n_c (s_aload_n (pc := 55) (k := 0) (by decide +kernel)) <|
  n_c (s_gRc (s_getR (pc := 56) (ci := 12) (k := 44) (idx := 83) nok12 (by decide) rfl (by decide +kernel) w_1451) (gk107 hG) (gm107_44 hG)) <|
  n_c (s_iconst (pc := 59) (n := 5) (by decide +kernel) (by decide +kernel)) <|
  n_c (s_aload_n (pc := 60) (k := 0) (by decide +kernel)) <|
  n_c (s_iload_n (pc := 61) (k := 3) (by decide +kernel)) <|
  n_c (s_callVc (s_callV (pc := 62) (csX12_fullOf N hG) (by decide) okX12_fullOf nok12 w_1851 w_87 w_1849 (by decide +kernel)) (gk107 hG)) <|
  n_c (s_iastc (s_iastore (pc := 65) (by decide +kernel)) (gk131 hG) (gl131 hG)) <|
  n_c (s_aload_n (pc := 66) (k := 0) (by decide +kernel)) <|
  n_c (s_gRc (s_getR (pc := 67) (ci := 12) (k := 44) (idx := 83) nok12 (by decide) rfl (by decide +kernel) w_1451) (gk107 hG) (gm107_44 hG)) <|
  n_c (s_bipush (pc := 70) (n := 6) (by decide +kernel) (by decide +kernel)) <|
  n_c (s_aload_n (pc := 72) (k := 0) (by decide +kernel)) <|
  n_c (s_gRc (s_getR (pc := 73) (ci := 12) (k := 1) (idx := 7) nok12 (by decide) rfl (by decide +kernel) w_1408) (gk107 hG) (gm107_1 hG)) <|
  n_c (s_iconst (pc := 76) (n := 4) (by decide +kernel) (by decide +kernel)) <|
  n_c (s_iload_n (pc := 77) (k := 3) (by decide +kernel)) <|
  n_c (s_iadd (pc := 78) (by decide +kernel)) <|
  n_c (s_aldc (s_iaload (pc := 79) (by decide +kernel)) (gk108 hG) (gl108 hG)) <|
  n_c (s_iastc (s_iastore (pc := 80) (by decide +kernel)) (gk131 hG) (gl131 hG)) <|
  n_c (s_aload_n (pc := 81) (k := 0) (by decide +kernel)) <|
  n_c (s_gRc (s_getR (pc := 82) (ci := 12) (k := 44) (idx := 83) nok12 (by decide) rfl (by decide +kernel) w_1451) (gk107 hG) (gm107_44 hG)) <|
  n_c (s_bipush (pc := 85) (n := 7) (by decide +kernel) (by decide +kernel)) <|
  n_c (s_aload_n (pc := 87) (k := 0) (by decide +kernel)) <|
  n_c (s_gRc (s_getR (pc := 88) (ci := 12) (k := 1) (idx := 7) nok12 (by decide) rfl (by decide +kernel) w_1408) (gk107 hG) (gm107_1 hG)) <|
  n_c (s_bipush (pc := 91) (n := 44) (by decide +kernel) (by decide +kernel)) <|
  n_c (s_iload_n (pc := 93) (k := 2) (by decide +kernel)) <|
  n_c (s_iadd (pc := 94) (by decide +kernel)) <|
  n_c (s_aldc (s_iaload (pc := 95) (by decide +kernel)) (gk108 hG) (gl108 hG)) <|
  n_c (s_iastc (s_iastore (pc := 96) (by decide +kernel)) (gk131 hG) (gl131 hG)) <|
  n_c (s_aload_n (pc := 97) (k := 0) (by decide +kernel)) <|
  n_c (s_gRc (s_getR (pc := 98) (ci := 12) (k := 44) (idx := 83) nok12 (by decide) rfl (by decide +kernel) w_1451) (gk107 hG) (gm107_44 hG)) <|
  n_c (s_bipush (pc := 101) (n := 8) (by decide +kernel) (by decide +kernel)) <|
  n_c (s_aload_n (pc := 103) (k := 0) (by decide +kernel)) <|
  n_c (s_gRc (s_getR (pc := 104) (ci := 12) (k := 1) (idx := 7) nok12 (by decide) rfl (by decide +kernel) w_1408) (gk107 hG) (gm107_1 hG)) <|
  n_c (s_bipush (pc := 107) (n := 60) (by decide +kernel) (by decide +kernel)) <|
  n_c (s_iload_n (pc := 109) (k := 2) (by decide +kernel)) <|
  n_c (s_iadd (pc := 110) (by decide +kernel)) <|
  n_c (s_aldc (s_iaload (pc := 111) (by decide +kernel)) (gk108 hG) (gl108 hG)) <|
  n_c (s_iastc (s_iastore (pc := 112) (by decide +kernel)) (gk131 hG) (gl131 hG)) <|
  n_c (s_aload_n (pc := 113) (k := 0) (by decide +kernel)) <|
  n_c (s_gRc (s_getR (pc := 114) (ci := 12) (k := 44) (idx := 83) nok12 (by decide) rfl (by decide +kernel) w_1451) (gk107 hG) (gm107_44 hG)) <|
  n_c (s_bipush (pc := 117) (n := 9) (by decide +kernel) (by decide +kernel)) <|
  n_c (s_aload_n (pc := 119) (k := 0) (by decide +kernel)) <|
  n_c (s_gRc (s_getR (pc := 120) (ci := 12) (k := 1) (idx := 7) nok12 (by decide) rfl (by decide +kernel) w_1408) (gk107 hG) (gm107_1 hG)) <|
  n_c (s_bipush (pc := 123) (n := 88) (by decide +kernel) (by decide +kernel)) <|
  n_c (s_iload_n (pc := 125) (k := 1) (by decide +kernel)) <|
  n_c (s_iadd (pc := 126) (by decide +kernel)) <|
  n_c (s_aldc (s_iaload (pc := 127) (by decide +kernel)) (gk108 hG) (gl108 hG)) <|
  n_c (s_iastc (s_iastore (pc := 128) (by decide +kernel)) (gk131 hG) (gl131 hG)) <|
  n_c (s_aload_n (pc := 129) (k := 0) (by decide +kernel)) <|
  n_c (s_gRc (s_getR (pc := 130) (ci := 12) (k := 44) (idx := 83) nok12 (by decide) rfl (by decide +kernel) w_1451) (gk107 hG) (gm107_44 hG)) <|
  n_c (s_bipush (pc := 133) (n := 10) (by decide +kernel) (by decide +kernel)) <|
  n_c (s_aload_n (pc := 135) (k := 0) (by decide +kernel)) <|
  n_c (s_gRc (s_getR (pc := 136) (ci := 12) (k := 1) (idx := 7) nok12 (by decide) rfl (by decide +kernel) w_1408) (gk107 hG) (gm107_1 hG)) <|
  n_c (s_iconst (pc := 139) (n := 0) (by decide +kernel) (by decide +kernel)) <|
  n_c (s_aldc (s_iaload (pc := 140) (by decide +kernel)) (gk108 hG) (gl108 hG)) <|
  n_c (s_iastc (s_iastore (pc := 141) (by decide +kernel)) (gk131 hG) (gl131 hG)) <|
  n_c (s_aload_n (pc := 142) (k := 0) (by decide +kernel)) <|
  n_c (s_iload (pc := 143) (by decide +kernel)) <|
  n_c (s_callVc (s_callV (pc := 145) (csX12_lineOf N hG) (by decide) okX12_lineOf nok12 w_1879 w_94 w_1877 (by decide +kernel)) (gk107 hG)) <|
  n_c (s_istore (pc := 148) (by decide +kernel)) <|
  n_c (s_iload (pc := 150) (by decide +kernel)) <|
  n_c (s_if_ne (pc := 152) (off := 25) (by decide +kernel) (by decide +kernel)) <|
  n_c (s_bipush (pc := 155) (n := 80) (by decide +kernel) (by decide +kernel)) <|
  n_c (s_aload_n (pc := 157) (k := 0) (by decide +kernel)) <|
  n_c (s_gRc (s_getR (pc := 158) (ci := 12) (k := 11) (idx := 28) nok12 (by decide) rfl (by decide +kernel) w_1418) (gk107 hG) (gm107_11 hG)) <|
  n_c (s_iload_n (pc := 161) (k := 1) (by decide +kernel)) <|
  n_c (s_aldc (s_iaload (pc := 162) (by decide +kernel)) (gk114 hG) (gl114 hG)) <|
  n_c (s_imul (pc := 163) (by decide +kernel)) <|
  n_c (s_bipush (pc := 164) (n := 20) (by decide +kernel) (by decide +kernel)) <|
  n_c (s_aload_n (pc := 166) (k := 0) (by decide +kernel)) <|
  n_c (s_gRc (s_getR (pc := 167) (ci := 12) (k := 9) (idx := 22) nok12 (by decide) rfl (by decide +kernel) w_1416) (gk107 hG) (gm107_9 hG)) <|
  n_c (s_iload_n (pc := 170) (k := 2) (by decide +kernel)) <|
  n_c (s_aldc (s_iaload (pc := 171) (by decide +kernel)) (gk112 hG) (gl112 hG)) <|
  n_c (s_imul (pc := 172) (by decide +kernel)) <|
  n_c (s_isub (pc := 173) (by decide +kernel)) <|
  n_c (s_goto (pc := 174) (off := 33) (by decide +kernel) (by decide +kernel)) <|
  n_c (s_iload (pc := 177) (by decide +kernel)) <|
  n_c (s_iconst (pc := 179) (n := 1) (by decide +kernel) (by decide +kernel)) <|
  n_c (s_icmp_ne (pc := 180) (off := 14) (by decide +kernel) (by decide +kernel)) <|
  n_c (s_iconst (pc := 183) (n := 1) (by decide +kernel) (by decide +kernel)) <|
  n_c (s_aload_n (pc := 184) (k := 0) (by decide +kernel)) <|
  n_c (s_gRc (s_getR (pc := 185) (ci := 12) (k := 11) (idx := 28) nok12 (by decide) rfl (by decide +kernel) w_1418) (gk107 hG) (gm107_11 hG)) <|
  n_c (s_iload_n (pc := 188) (k := 1) (by decide +kernel)) <|
  n_c (s_aldc (s_iaload (pc := 189) (by decide +kernel)) (gk114 hG) (gl114 hG)) <|
  n_c (s_iadd (pc := 190) (by decide +kernel)) <|
  n_c (s_goto (pc := 191) (off := 16) (by decide +kernel) (by decide +kernel)) <|
  n_c (s_sipush (pc := 194) (n := 500) (by decide +kernel) (by decide +kernel)) <|
  n_c (s_bipush (pc := 197) (n := 50) (by decide +kernel) (by decide +kernel)) <|
  n_c (s_aload_n (pc := 199) (k := 0) (by decide +kernel)) <|
  n_c (s_gRc (s_getR (pc := 200) (ci := 12) (k := 12) (idx := 31) nok12 (by decide) rfl (by decide +kernel) w_1419) (gk107 hG) (gm107_12 hG)) <|
  n_c (s_iload_n (pc := 203) (k := 1) (by decide +kernel)) <|
  n_c (s_aldc (s_iaload (pc := 204) (by decide +kernel)) (gk115 hG) (gl115 hG)) <|
  n_c (s_imul (pc := 205) (by decide +kernel)) <|
  n_c (s_iadd (pc := 206) (by decide +kernel)) <|
  n_c (s_istore (pc := 207) (by decide +kernel)) <|
  n_c (s_aload_n (pc := 209) (k := 0) (by decide +kernel)) <|
  n_c (s_iload (pc := 210) (by decide +kernel)) <|
  n_c (s_iconst (pc := 212) (n := -1) (by decide +kernel) (by decide +kernel)) <|
  n_c (s_icmp_ne (pc := 213) (off := 8) (by decide +kernel) (by decide +kernel)) <|
  n_c (s_iload (pc := 216) (by decide +kernel)) <|
  n_c (s_goto (pc := 218) (off := 22) (by decide +kernel) (by decide +kernel)) <|
  n_c (s_aload_n (pc := 221) (k := 0) (by decide +kernel)) <|
  n_c (s_iconst (pc := 222) (n := 0) (by decide +kernel) (by decide +kernel)) <|
  n_c (s_aload_n (pc := 223) (k := 0) (by decide +kernel)) <|
  n_c (s_gRc (s_getR (pc := 224) (ci := 12) (k := 23) (idx := 49) nok12 (by decide) rfl (by decide +kernel) w_1430) (gk107 hG) (gm107_23 hG)) <|
  n_c (s_iload (pc := 227) (by decide +kernel)) <|
  n_c (s_aldc (s_iaload (pc := 229) (by decide +kernel)) (gk121 hG) (gl121 hG)) <|
  n_c (s_aload_n (pc := 230) (k := 0) (by decide +kernel)) <|
  n_c (s_gRc (s_getR (pc := 231) (ci := 12) (k := 24) (idx := 52) nok12 (by decide) rfl (by decide +kernel) w_1431) (gk107 hG) (gm107_24 hG)) <|
  n_c (s_iload (pc := 234) (by decide +kernel)) <|
  n_c (s_aldc (s_iaload (pc := 236) (by decide +kernel)) (gk122 hG) (gl122 hG)) <|
  n_c (s_callVc (s_callV (pc := 237) (csX12_runs N hG) (by decide) okX12_runs nok12 w_1883 w_95 w_1881 (by decide +kernel)) (gk107 hG)) <|
  n_c (s_iconst (pc := 240) (n := 0) (by decide +kernel) (by decide +kernel)) <|
  n_c (s_iload (pc := 241) (by decide +kernel)) <|
  n_c (s_callVc (s_callV (pc := 243) (csX12_held) (by decide) okX12_held nok12 w_1891 w_97 w_1889 (by decide +kernel)) (gk107 hG)) <|
  n_c (s_iret (pc := 246) rfl (by decide +kernel)) <|
  n_e
def fX12_lawTells_240 (N : Nat) (x5 : Int32) (s0 : Int32) (M : nM) : Option (Int32 × nM) :=
  (fX12_held s0 (0 : Int32) x5 M).bind fun p1 =>
  some (p1.1, p1.2)
set_option maxRecDepth 200000 in
theorem bX12_lawTells_240 {l : Launch} {w : nW} (N : Nat) {G : nG} (hG : n_GOK G) (x5 : Int32) (s0 : Int32) (M : nM) (r : Int32 × nM) (h : fX12_lawTells_240 N x5 s0 M = some r) : n_At l w 3 mX12_lawTells 240 [(5, .int x5)] [.int s0, .ref 107] (G, M) (dv_i r.1, (G, r.2)) :=
  n_seg (fin := n_fin dv_i G) (K := []) 7 (iX12_lawTells N hG) n_ke (by rfl) h
def fX12_lawTells_207 (N : Nat) (x5 : Int32) (x6 : Int32) (s0 : Int32) (M : nM) : Option (Int32 × nM) :=
  if ¬ x6 = (-1 : Int32) then
    n_chk (n_ib 48 x6) <|
    n_chk (n_ib 48 x6) <|
    (fX12_runs N (0 : Int32) (M 121 x6.toNatClampNeg) (M 122 x6.toNatClampNeg) M).bind fun p1 =>
    fX12_lawTells_240 N x5 p1.1 p1.2
  else
    fX12_lawTells_240 N x5 s0 M
set_option maxRecDepth 200000 in
theorem bX12_lawTells_207 {l : Launch} {w : nW} (N : Nat) {G : nG} (hG : n_GOK G) (x5 : Int32) (x6 : Int32) (s0 : Int32) (M : nM) (r : Int32 × nM) (h : fX12_lawTells_207 N x5 x6 s0 M = some r) : n_At l w 3 mX12_lawTells 207 [(0, .ref 107), (5, .int x5), (6, .int x6)] [.int s0] (G, M) (dv_i r.1, (G, r.2)) :=
  n_seg (fin := n_fin dv_i G) (K := [(240, fun lv st M => n_lI lv 5 (fun x5 => n_pI st (fun s0 st => n_pC 107 st (fun st => n_pE st (fX12_lawTells_240 N x5 s0 M)))))]) 21 (iX12_lawTells N hG) (n_kc (fun lv st M r h => by
      obtain ⟨x5, e5, h1⟩ := n_lI_x h
      obtain ⟨s0, t0, rfl, h2⟩ := n_pI_x h1
      obtain ⟨t1, rfl, h3⟩ := n_pC_x h2
      obtain ⟨rfl, h4⟩ := n_pE_x h3
      exact n_sub (n_qc e5 n_qe) (bX12_lawTells_240 N hG x5 s0 M r h4)) n_ke) (by rfl) h
def fX12_lawTells (N : Nat) (x1 : Int32) (x2 : Int32) (x3 : Int32) (x4 : Int32) (x5 : Int32) (M : nM) : Option (Int32 × nM) :=
  n_chk (n_ib 12 x1) <|
  n_chk (n_ib 11 (0 : Int32)) <|
  let M1 : nM := n_up M 131 (0 : Int32).toNatClampNeg (M 114 x1.toNatClampNeg)
  n_chk (n_ib 12 x1) <|
  n_chk (n_ib 11 (1 : Int32)) <|
  let M2 : nM := n_up M1 131 (1 : Int32).toNatClampNeg (M1 115 x1.toNatClampNeg)
  n_chk (n_ib 16 x2) <|
  n_chk (n_ib 11 (2 : Int32)) <|
  let M3 : nM := n_up M2 131 (2 : Int32).toNatClampNeg (M2 112 x2.toNatClampNeg)
  n_chk (n_ib 16 x2) <|
  n_chk (n_ib 11 (3 : Int32)) <|
  let M4 : nM := n_up M3 131 (3 : Int32).toNatClampNeg (M3 113 x2.toNatClampNeg)
  n_chk (n_ib 11 (4 : Int32)) <|
  let M5 : nM := n_up M4 131 (4 : Int32).toNatClampNeg x3
  (fX12_fullOf N x3 M5).bind fun p6 =>
  n_chk (n_ib 11 (5 : Int32)) <|
  let M7 : nM := n_up p6.2 131 (5 : Int32).toNatClampNeg p6.1
  n_chk (n_ib 100 ((4 : Int32) + x3)) <|
  n_chk (n_ib 11 (6 : Int32)) <|
  let M8 : nM := n_up M7 131 (6 : Int32).toNatClampNeg (M7 108 ((4 : Int32) + x3).toNatClampNeg)
  n_chk (n_ib 100 ((44 : Int32) + x2)) <|
  n_chk (n_ib 11 (7 : Int32)) <|
  let M9 : nM := n_up M8 131 (7 : Int32).toNatClampNeg (M8 108 ((44 : Int32) + x2).toNatClampNeg)
  n_chk (n_ib 100 ((60 : Int32) + x2)) <|
  n_chk (n_ib 11 (8 : Int32)) <|
  let M10 : nM := n_up M9 131 (8 : Int32).toNatClampNeg (M9 108 ((60 : Int32) + x2).toNatClampNeg)
  n_chk (n_ib 100 ((88 : Int32) + x1)) <|
  n_chk (n_ib 11 (9 : Int32)) <|
  let M11 : nM := n_up M10 131 (9 : Int32).toNatClampNeg (M10 108 ((88 : Int32) + x1).toNatClampNeg)
  n_chk (n_ib 100 (0 : Int32)) <|
  n_chk (n_ib 11 (10 : Int32)) <|
  let M12 : nM := n_up M11 131 (10 : Int32).toNatClampNeg (M11 108 (0 : Int32).toNatClampNeg)
  (fX12_lineOf N x4 M12).bind fun p13 =>
  if ¬ x4 = 0 then
    if ¬ x4 = (1 : Int32) then
      n_chk (n_ib 12 x1) <|
      fX12_lawTells_207 N x5 p13.1 ((500 : Int32) + ((50 : Int32) * (p13.2 115 x1.toNatClampNeg))) p13.2
    else
      n_chk (n_ib 12 x1) <|
      fX12_lawTells_207 N x5 p13.1 ((1 : Int32) + (p13.2 114 x1.toNatClampNeg)) p13.2
  else
    n_chk (n_ib 12 x1) <|
    n_chk (n_ib 16 x2) <|
    fX12_lawTells_207 N x5 p13.1 (((80 : Int32) * (p13.2 114 x1.toNatClampNeg)) - ((20 : Int32) * (p13.2 112 x2.toNatClampNeg))) p13.2
set_option maxRecDepth 200000 in
theorem bX12_lawTells_0 {l : Launch} {w : nW} (N : Nat) {G : nG} (hG : n_GOK G) (x1 : Int32) (x2 : Int32) (x3 : Int32) (x4 : Int32) (x5 : Int32) (M : nM) (r : Int32 × nM) (h : fX12_lawTells N x1 x2 x3 x4 x5 M = some r) : n_At l w 3 mX12_lawTells 0 [(0, .ref 107), (1, .int x1), (2, .int x2), (3, .int x3), (4, .int x4), (5, .int x5)] [] (G, M) (dv_i r.1, (G, r.2)) :=
  n_seg (fin := n_fin dv_i G) (K := [(207, fun lv st M => n_lC 107 lv 0 (n_lI lv 5 (fun x5 => n_lI lv 6 (fun x6 => n_pI st (fun s0 st => n_pE st (fX12_lawTells_207 N x5 x6 s0 M))))))]) 133 (iX12_lawTells N hG) (n_kc (fun lv st M r h => by
      obtain ⟨e0, h1⟩ := n_lC_x h
      obtain ⟨x5, e5, h2⟩ := n_lI_x h1
      obtain ⟨x6, e6, h3⟩ := n_lI_x h2
      obtain ⟨s0, t0, rfl, h4⟩ := n_pI_x h3
      obtain ⟨rfl, h5⟩ := n_pE_x h4
      exact n_sub (n_qc e0 (n_qc e5 (n_qc e6 n_qe))) (bX12_lawTells_207 N hG x5 x6 s0 M r h5)) n_ke) (by rfl) h
theorem eX12_lawTells {l : Launch} {w : nW} (N : Nat) {G : nG} (hG : n_GOK G) (z1 : Int32) (z2 : Int32) (z3 : Int32) (z4 : Int32) (z5 : Int32) (M : nM) (r : Int32 × nM) (h : fX12_lawTells N z1 z2 z3 z4 z5 M = some r) : n_Met l w 3 mX12_lawTells [.ref 107, .int z1, .int z2, .int z3, .int z4, .int z5] (G, M) (dv_i r.1, (G, r.2)) :=
  n_entry (by decide +kernel) rfl (Nat.le_of_ble_eq_true rfl) (n_sub (lv := [(0, .ref 107), (1, .int z1), (2, .int z2), (3, .int z3), (4, .int z4), (5, .int z5)]) (n_qc rfl (n_qc rfl (n_qc rfl (n_qc rfl (n_qc rfl (n_qc rfl n_qe)))))) (bX12_lawTells_0 N hG z1 z2 z3 z4 z5 M r h))
abbrev hX12_lawTells (N : Nat) : nF := fun T as M k => n_pC 107 as (fun as => n_pI as (fun z1 as => n_pI as (fun z2 as => n_pI as (fun z3 as => n_pI as (fun z4 as => n_pI as (fun z5 as => n_pE as ((fX12_lawTells N z1 z2 z3 z4 z5 M).bind fun p => k (dv_i p.1) p.2)))))))
theorem csX12_lawTells {l : Launch} {w : nW} (N : Nat) {G : nG} (hG : n_GOK G) : n_CS l w 3 mX12_lawTells G (hX12_lawTells N) := fun T as M k r h => by
  obtain ⟨t0, rfl, h1⟩ := n_pC_x h
  obtain ⟨z1, t1, rfl, h2⟩ := n_pI_x h1
  obtain ⟨z2, t2, rfl, h3⟩ := n_pI_x h2
  obtain ⟨z3, t3, rfl, h4⟩ := n_pI_x h3
  obtain ⟨z4, t4, rfl, h5⟩ := n_pI_x h4
  obtain ⟨z5, t5, rfl, h6⟩ := n_pI_x h5
  obtain ⟨rfl, hE⟩ := n_pE_x h6
  obtain ⟨p, hp, hk⟩ := Option.bind_eq_some_iff.mp hE
  exact ⟨_, _, eX12_lawTells N hG z1 z2 z3 z4 z5 M p hp, hk⟩
/-! ===== SleightHouseModel.palmsOf(III)I ===== -/
def mX12_palmsOf : nY := (RX12, yX12_palmsOf, cX12_palmsOf, 4, some .int)
theorem okX12_palmsOf : n_MOK mX12_palmsOf 3 := ⟨w_1872, w_151, ⟨by decide +kernel, by decide +kernel, by decide +kernel⟩, by decide⟩
abbrev aX12_palmsOf (N : Nat) : List (Nat × nO (Int32 × nM)) := [(0, o_aload 0 1), (1, o_iload 1 2), (2, o_iload 2 3), (3, o_iload 3 4), (4, o_push (.int (0 : Int32)) 5), (5, o_push (.int (1000 : Int32)) 8), (8, o_callVc 107 5 (hX12_lawTells N) 11), (11, o_iret)]
set_option maxRecDepth 200000 in
theorem iX12_palmsOf {l : Launch} {w : nW} (N : Nat) {G : nG} (hG : n_GOK G) : n_AllS l w 4 mX12_palmsOf G (n_fin dv_i G) (aX12_palmsOf N) :=
  n_c (s_aload_n (pc := 0) (k := 0) (by decide +kernel)) <|
  n_c (s_iload_n (pc := 1) (k := 1) (by decide +kernel)) <|
  n_c (s_iload_n (pc := 2) (k := 2) (by decide +kernel)) <|
  n_c (s_iload_n (pc := 3) (k := 3) (by decide +kernel)) <|
  n_c (s_iconst (pc := 4) (n := 0) (by decide +kernel) (by decide +kernel)) <|
  n_c (s_sipush (pc := 5) (n := 1000) (by decide +kernel) (by decide +kernel)) <|
  n_c (s_callVc (s_callV (pc := 8) (csX12_lawTells N hG) (by decide) okX12_lawTells nok12 w_1875 w_93 w_1873 (by decide +kernel)) (gk107 hG)) <|
  n_c (s_iret (pc := 11) rfl (by decide +kernel)) <|
  n_e
def fX12_palmsOf (N : Nat) (x1 : Int32) (x2 : Int32) (x3 : Int32) (M : nM) : Option (Int32 × nM) :=
  (fX12_lawTells N x1 x2 x3 (0 : Int32) (1000 : Int32) M).bind fun p1 =>
  some (p1.1, p1.2)
set_option maxRecDepth 200000 in
theorem bX12_palmsOf_0 {l : Launch} {w : nW} (N : Nat) {G : nG} (hG : n_GOK G) (x1 : Int32) (x2 : Int32) (x3 : Int32) (M : nM) (r : Int32 × nM) (h : fX12_palmsOf N x1 x2 x3 M = some r) : n_At l w 4 mX12_palmsOf 0 [(0, .ref 107), (1, .int x1), (2, .int x2), (3, .int x3)] [] (G, M) (dv_i r.1, (G, r.2)) :=
  n_seg (fin := n_fin dv_i G) (K := []) 11 (iX12_palmsOf N hG) n_ke (by rfl) h
theorem eX12_palmsOf {l : Launch} {w : nW} (N : Nat) {G : nG} (hG : n_GOK G) (z1 : Int32) (z2 : Int32) (z3 : Int32) (M : nM) (r : Int32 × nM) (h : fX12_palmsOf N z1 z2 z3 M = some r) : n_Met l w 4 mX12_palmsOf [.ref 107, .int z1, .int z2, .int z3] (G, M) (dv_i r.1, (G, r.2)) :=
  n_entry (by decide +kernel) rfl (Nat.le_of_ble_eq_true rfl) (n_sub (lv := [(0, .ref 107), (1, .int z1), (2, .int z2), (3, .int z3)]) (n_qc rfl (n_qc rfl (n_qc rfl (n_qc rfl n_qe)))) (bX12_palmsOf_0 N hG z1 z2 z3 M r h))
abbrev hX12_palmsOf (N : Nat) : nF := fun T as M k => n_pC 107 as (fun as => n_pI as (fun z1 as => n_pI as (fun z2 as => n_pI as (fun z3 as => n_pE as ((fX12_palmsOf N z1 z2 z3 M).bind fun p => k (dv_i p.1) p.2)))))
theorem csX12_palmsOf {l : Launch} {w : nW} (N : Nat) {G : nG} (hG : n_GOK G) : n_CS l w 4 mX12_palmsOf G (hX12_palmsOf N) := fun T as M k r h => by
  obtain ⟨t0, rfl, h1⟩ := n_pC_x h
  obtain ⟨z1, t1, rfl, h2⟩ := n_pI_x h1
  obtain ⟨z2, t2, rfl, h3⟩ := n_pI_x h2
  obtain ⟨z3, t3, rfl, h4⟩ := n_pI_x h3
  obtain ⟨rfl, hE⟩ := n_pE_x h4
  obtain ⟨p, hp, hk⟩ := Option.bind_eq_some_iff.mp hE
  exact ⟨_, _, eX12_palmsOf N hG z1 z2 z3 M p hp, hk⟩
/-! ===== SleightHouseModel.draw(I)I ===== -/
def mX12_draw : nY := (RX12, yX12_draw, cX12_draw, 2, some .int)
theorem okX12_draw : n_MOK mX12_draw 1 := ⟨w_1900, w_151, ⟨by decide +kernel, by decide +kernel, by decide +kernel⟩, by decide⟩
abbrev aX12_draw : List (Nat × nO (Int32 × nM)) := [(0, o_aload 0 1), (1, o_gRc 107 108 4), (4, o_push (.int (1 : Int32)) 5), (5, o_push (.int (1664525 : Int32)) 7), (7, o_aload 0 8), (8, o_gRc 107 108 11), (11, o_push (.int (1 : Int32)) 12), (12, o_aldc 108 100 13), (13, o_imul 14), (14, o_push (.int (1013904223 : Int32)) 16), (16, o_iadd 17), (17, o_iastc 108 100 18), (18, o_aload 0 19), (19, o_gRc 107 108 22), (22, o_push (.int (1 : Int32)) 23), (23, o_aldc 108 100 24), (24, o_push (.int (8 : Int32)) 26), (26, o_iushr 27), (27, o_iload 1 28), (28, o_irem 29), (29, o_iret)]
set_option maxRecDepth 200000 in
theorem iX12_draw {l : Launch} {w : nW} {G : nG} (hG : n_GOK G) : n_AllS l w 0 mX12_draw G (n_fin dv_i G) (aX12_draw) :=
  n_c (s_aload_n (pc := 0) (k := 0) (by decide +kernel)) <|
  n_c (s_gRc (s_getR (pc := 1) (ci := 12) (k := 1) (idx := 7) nok12 (by decide) rfl (by decide +kernel) w_1408) (gk107 hG) (gm107_1 hG)) <|
  n_c (s_iconst (pc := 4) (n := 1) (by decide +kernel) (by decide +kernel)) <|
  n_c (s_ldc (pc := 5) (i := 156) (by decide +kernel) w_1901) <|
  n_c (s_aload_n (pc := 7) (k := 0) (by decide +kernel)) <|
  n_c (s_gRc (s_getR (pc := 8) (ci := 12) (k := 1) (idx := 7) nok12 (by decide) rfl (by decide +kernel) w_1408) (gk107 hG) (gm107_1 hG)) <|
  n_c (s_iconst (pc := 11) (n := 1) (by decide +kernel) (by decide +kernel)) <|
  n_c (s_aldc (s_iaload (pc := 12) (by decide +kernel)) (gk108 hG) (gl108 hG)) <|
  n_c (s_imul (pc := 13) (by decide +kernel)) <|
  n_c (s_ldc (pc := 14) (i := 157) (by decide +kernel) w_1902) <|
  n_c (s_iadd (pc := 16) (by decide +kernel)) <|
  n_c (s_iastc (s_iastore (pc := 17) (by decide +kernel)) (gk108 hG) (gl108 hG)) <|
  n_c (s_aload_n (pc := 18) (k := 0) (by decide +kernel)) <|
  n_c (s_gRc (s_getR (pc := 19) (ci := 12) (k := 1) (idx := 7) nok12 (by decide) rfl (by decide +kernel) w_1408) (gk107 hG) (gm107_1 hG)) <|
  n_c (s_iconst (pc := 22) (n := 1) (by decide +kernel) (by decide +kernel)) <|
  n_c (s_aldc (s_iaload (pc := 23) (by decide +kernel)) (gk108 hG) (gl108 hG)) <|
  n_c (s_bipush (pc := 24) (n := 8) (by decide +kernel) (by decide +kernel)) <|
  n_c (s_iushr (pc := 26) (by decide +kernel)) <|
  n_c (s_iload_n (pc := 27) (k := 1) (by decide +kernel)) <|
  n_c (s_irem (pc := 28) (by decide +kernel)) <|
  n_c (s_iret (pc := 29) rfl (by decide +kernel)) <|
  n_e
def fX12_draw (x1 : Int32) (M : nM) : Option (Int32 × nM) :=
  n_chk (n_ib 100 (1 : Int32)) <|
  n_chk (n_ib 100 (1 : Int32)) <|
  let M1 : nM := n_up M 108 (1 : Int32).toNatClampNeg (((1664525 : Int32) * (M 108 (1 : Int32).toNatClampNeg)) + (1013904223 : Int32))
  n_chk (n_ib 100 (1 : Int32)) <|
  if x1 = 0 then none else
  some ((((M1 108 (1 : Int32).toNatClampNeg).toUInt32 >>> ((8 : Int32).toUInt32 &&& Int32.toUInt32 31)).toInt32 - ((M1 108 (1 : Int32).toNatClampNeg).toUInt32 >>> ((8 : Int32).toUInt32 &&& Int32.toUInt32 31)).toInt32 / x1 * x1), M1)
set_option maxRecDepth 200000 in
theorem bX12_draw_0 {l : Launch} {w : nW} {G : nG} (hG : n_GOK G) (x1 : Int32) (M : nM) (r : Int32 × nM) (h : fX12_draw x1 M = some r) : n_At l w 0 mX12_draw 0 [(0, .ref 107), (1, .int x1)] [] (G, M) (dv_i r.1, (G, r.2)) :=
  n_seg (fin := n_fin dv_i G) (K := []) 24 (iX12_draw hG) n_ke (by rfl) h
theorem eX12_draw {l : Launch} {w : nW} {G : nG} (hG : n_GOK G) (z1 : Int32) (M : nM) (r : Int32 × nM) (h : fX12_draw z1 M = some r) : n_Met l w 0 mX12_draw [.ref 107, .int z1] (G, M) (dv_i r.1, (G, r.2)) :=
  n_entry (by decide +kernel) rfl (Nat.le_of_ble_eq_true rfl) (n_sub (lv := [(0, .ref 107), (1, .int z1)]) (n_qc rfl (n_qc rfl n_qe)) (bX12_draw_0 hG z1 M r h))
abbrev hX12_draw : nF := fun T as M k => n_pC 107 as (fun as => n_pI as (fun z1 as => n_pE as ((fX12_draw z1 M).bind fun p => k (dv_i p.1) p.2)))
theorem csX12_draw {l : Launch} {w : nW} {G : nG} (hG : n_GOK G) : n_CS l w 0 mX12_draw G (hX12_draw) := fun T as M k r h => by
  obtain ⟨t0, rfl, h1⟩ := n_pC_x h
  obtain ⟨z1, t1, rfl, h2⟩ := n_pI_x h1
  obtain ⟨rfl, hE⟩ := n_pE_x h2
  obtain ⟨p, hp, hk⟩ := Option.bind_eq_some_iff.mp hE
  exact ⟨_, _, eX12_draw hG z1 M p hp, hk⟩
/-! ===== SleightHouseModel.comes(I)Z ===== -/
def mX12_comes : nY := (RX12, yX12_comes, cX12_comes, 2, some .boolean)
theorem okX12_comes : n_MOK mX12_comes 1 := ⟨w_1896, w_151, ⟨by decide +kernel, by decide +kernel, by decide +kernel⟩, by decide⟩
abbrev aX12_comes : List (Nat × nO (Int32 × nM)) := [(0, o_aload 0 1), (1, o_gIc 107 5 4), (4, oi_eq 24 7), (7, o_push (.int (2 : Int32)) 8), (8, o_iload 1 9), (9, o_imul 10), (10, o_push (.int (1000 : Int32)) 13), (13, oc_lt 20 16), (16, o_push (.int (1 : Int32)) 17), (17, o_goto 40), (20, o_push (.int (0 : Int32)) 21), (21, o_goto 40), (24, o_aload 0 25), (25, o_push (.int (1000 : Int32)) 28), (28, o_callVc 107 1 (hX12_draw) 31), (31, o_iload 1 32), (32, oc_ge 39 35), (35, o_push (.int (1 : Int32)) 36), (36, o_goto 40), (39, o_push (.int (0 : Int32)) 40), (40, o_zret)]
set_option maxRecDepth 200000 in
theorem iX12_comes {l : Launch} {w : nW} {G : nG} (hG : n_GOK G) : n_AllS l w 1 mX12_comes G (n_fin dv_i G) (aX12_comes) :=
  n_c (s_aload_n (pc := 0) (k := 0) (by decide +kernel)) <|
  n_c (s_gIc (s_getI (pc := 1) (ci := 12) (k := 5) (idx := 152) nok12 (by decide) rfl (by decide +kernel) w_1412) (gk107 hG)) <|
  n_c (s_if_eq (pc := 4) (off := 20) (by decide +kernel) (by decide +kernel)) <|
  n_c (s_iconst (pc := 7) (n := 2) (by decide +kernel) (by decide +kernel)) <|
  n_c (s_iload_n (pc := 8) (k := 1) (by decide +kernel)) <|
  n_c (s_imul (pc := 9) (by decide +kernel)) <|
  n_c (s_sipush (pc := 10) (n := 1000) (by decide +kernel) (by decide +kernel)) <|
  n_c (s_icmp_lt (pc := 13) (off := 7) (by decide +kernel) (by decide +kernel)) <|
  n_c (s_iconst (pc := 16) (n := 1) (by decide +kernel) (by decide +kernel)) <|
  n_c (s_goto (pc := 17) (off := 23) (by decide +kernel) (by decide +kernel)) <|
  n_c (s_iconst (pc := 20) (n := 0) (by decide +kernel) (by decide +kernel)) <|
  n_c (s_goto (pc := 21) (off := 19) (by decide +kernel) (by decide +kernel)) <|
  n_c (s_aload_n (pc := 24) (k := 0) (by decide +kernel)) <|
  n_c (s_sipush (pc := 25) (n := 1000) (by decide +kernel) (by decide +kernel)) <|
  n_c (s_callVc (s_callV (pc := 28) (csX12_draw hG) (by decide) okX12_draw nok12 w_1899 w_99 w_1897 (by decide +kernel)) (gk107 hG)) <|
  n_c (s_iload_n (pc := 31) (k := 1) (by decide +kernel)) <|
  n_c (s_icmp_ge (pc := 32) (off := 7) (by decide +kernel) (by decide +kernel)) <|
  n_c (s_iconst (pc := 35) (n := 1) (by decide +kernel) (by decide +kernel)) <|
  n_c (s_goto (pc := 36) (off := 4) (by decide +kernel) (by decide +kernel)) <|
  n_c (s_iconst (pc := 39) (n := 0) (by decide +kernel) (by decide +kernel)) <|
  n_c (s_zret (pc := 40) rfl (by decide +kernel)) <|
  n_e
def fX12_comes (x1 : Int32) (M : nM) : Option (Int32 × nM) :=
  if (M 107 5) = 0 then
    (fX12_draw (1000 : Int32) M).bind fun p1 =>
    if x1 ≤ p1.1 then
      some ((0 : Int32), p1.2)
    else
      some ((1 : Int32), p1.2)
  else
    if ((2 : Int32) * x1) < (1000 : Int32) then
      some ((0 : Int32), M)
    else
      some ((1 : Int32), M)
set_option maxRecDepth 200000 in
theorem bX12_comes_0 {l : Launch} {w : nW} {G : nG} (hG : n_GOK G) (x1 : Int32) (M : nM) (r : Int32 × nM) (h : fX12_comes x1 M = some r) : n_At l w 1 mX12_comes 0 [(0, .ref 107), (1, .int x1)] [] (G, M) (dv_i r.1, (G, r.2)) :=
  n_seg (fin := n_fin dv_i G) (K := []) 27 (iX12_comes hG) n_ke (by rfl) h
theorem eX12_comes {l : Launch} {w : nW} {G : nG} (hG : n_GOK G) (z1 : Int32) (M : nM) (r : Int32 × nM) (h : fX12_comes z1 M = some r) : n_Met l w 1 mX12_comes [.ref 107, .int z1] (G, M) (dv_i r.1, (G, r.2)) :=
  n_entry (by decide +kernel) rfl (Nat.le_of_ble_eq_true rfl) (n_sub (lv := [(0, .ref 107), (1, .int z1)]) (n_qc rfl (n_qc rfl n_qe)) (bX12_comes_0 hG z1 M r h))
abbrev hX12_comes : nF := fun T as M k => n_pC 107 as (fun as => n_pI as (fun z1 as => n_pE as ((fX12_comes z1 M).bind fun p => k (dv_i p.1) p.2)))
theorem csX12_comes {l : Launch} {w : nW} {G : nG} (hG : n_GOK G) : n_CS l w 1 mX12_comes G (hX12_comes) := fun T as M k r h => by
  obtain ⟨t0, rfl, h1⟩ := n_pC_x h
  obtain ⟨z1, t1, rfl, h2⟩ := n_pI_x h1
  obtain ⟨rfl, hE⟩ := n_pE_x h2
  obtain ⟨p, hp, hk⟩ := Option.bind_eq_some_iff.mp hE
  exact ⟨_, _, eX12_comes hG z1 M p hp, hk⟩
/-! ===== SleightHouseModel.farOf(III)I ===== -/
def mX12_farOf : nY := (RX12, yX12_farOf, cX12_farOf, 4, some .int)
theorem okX12_farOf : n_MOK mX12_farOf 3 := ⟨w_1910, w_151, ⟨by decide +kernel, by decide +kernel, by decide +kernel⟩, by decide⟩
abbrev aX12_farOf (N : Nat) : List (Nat × nO (Int32 × nM)) := [(0, o_aload 0 1), (1, o_iload 1 2), (2, o_iload 2 3), (3, o_iload 3 4), (4, o_push (.int (1 : Int32)) 5), (5, o_push (.int (99 : Int32)) 7), (7, o_callVc 107 5 (hX12_lawTells N) 10), (10, o_iret)]
set_option maxRecDepth 200000 in
theorem iX12_farOf {l : Launch} {w : nW} (N : Nat) {G : nG} (hG : n_GOK G) : n_AllS l w 4 mX12_farOf G (n_fin dv_i G) (aX12_farOf N) :=
  n_c (s_aload_n (pc := 0) (k := 0) (by decide +kernel)) <|
  n_c (s_iload_n (pc := 1) (k := 1) (by decide +kernel)) <|
  n_c (s_iload_n (pc := 2) (k := 2) (by decide +kernel)) <|
  n_c (s_iload_n (pc := 3) (k := 3) (by decide +kernel)) <|
  n_c (s_iconst (pc := 4) (n := 1) (by decide +kernel) (by decide +kernel)) <|
  n_c (s_bipush (pc := 5) (n := 99) (by decide +kernel) (by decide +kernel)) <|
  n_c (s_callVc (s_callV (pc := 7) (csX12_lawTells N hG) (by decide) okX12_lawTells nok12 w_1875 w_93 w_1873 (by decide +kernel)) (gk107 hG)) <|
  n_c (s_iret (pc := 10) rfl (by decide +kernel)) <|
  n_e
def fX12_farOf (N : Nat) (x1 : Int32) (x2 : Int32) (x3 : Int32) (M : nM) : Option (Int32 × nM) :=
  (fX12_lawTells N x1 x2 x3 (1 : Int32) (99 : Int32) M).bind fun p1 =>
  some (p1.1, p1.2)
set_option maxRecDepth 200000 in
theorem bX12_farOf_0 {l : Launch} {w : nW} (N : Nat) {G : nG} (hG : n_GOK G) (x1 : Int32) (x2 : Int32) (x3 : Int32) (M : nM) (r : Int32 × nM) (h : fX12_farOf N x1 x2 x3 M = some r) : n_At l w 4 mX12_farOf 0 [(0, .ref 107), (1, .int x1), (2, .int x2), (3, .int x3)] [] (G, M) (dv_i r.1, (G, r.2)) :=
  n_seg (fin := n_fin dv_i G) (K := []) 11 (iX12_farOf N hG) n_ke (by rfl) h
theorem eX12_farOf {l : Launch} {w : nW} (N : Nat) {G : nG} (hG : n_GOK G) (z1 : Int32) (z2 : Int32) (z3 : Int32) (M : nM) (r : Int32 × nM) (h : fX12_farOf N z1 z2 z3 M = some r) : n_Met l w 4 mX12_farOf [.ref 107, .int z1, .int z2, .int z3] (G, M) (dv_i r.1, (G, r.2)) :=
  n_entry (by decide +kernel) rfl (Nat.le_of_ble_eq_true rfl) (n_sub (lv := [(0, .ref 107), (1, .int z1), (2, .int z2), (3, .int z3)]) (n_qc rfl (n_qc rfl (n_qc rfl (n_qc rfl n_qe)))) (bX12_farOf_0 N hG z1 z2 z3 M r h))
abbrev hX12_farOf (N : Nat) : nF := fun T as M k => n_pC 107 as (fun as => n_pI as (fun z1 as => n_pI as (fun z2 as => n_pI as (fun z3 as => n_pE as ((fX12_farOf N z1 z2 z3 M).bind fun p => k (dv_i p.1) p.2)))))
theorem csX12_farOf {l : Launch} {w : nW} (N : Nat) {G : nG} (hG : n_GOK G) : n_CS l w 4 mX12_farOf G (hX12_farOf N) := fun T as M k r h => by
  obtain ⟨t0, rfl, h1⟩ := n_pC_x h
  obtain ⟨z1, t1, rfl, h2⟩ := n_pI_x h1
  obtain ⟨z2, t2, rfl, h3⟩ := n_pI_x h2
  obtain ⟨z3, t3, rfl, h4⟩ := n_pI_x h3
  obtain ⟨rfl, hE⟩ := n_pE_x h4
  obtain ⟨p, hp, hk⟩ := Option.bind_eq_some_iff.mp hE
  exact ⟨_, _, eX12_farOf N hG z1 z2 z3 M p hp, hk⟩
/-! ===== SleightHouseModel.isPalmed(III)V ===== -/
def mX12_isPalmed : nY := (RX12, yX12_isPalmed, cX12_isPalmed, 8, none)
theorem okX12_isPalmed : n_MOK mX12_isPalmed 3 := ⟨w_1906, w_151, ⟨by decide +kernel, by decide +kernel, by decide +kernel⟩, by decide⟩
abbrev aX12_isPalmed (N : Nat) : List (Nat × nO (Unit × nM)) := [(0, o_aload 0 1), (1, o_iload 1 2), (2, o_iload 2 3), (3, o_iload 3 4), (4, o_callVc 107 3 (hX12_farOf N) 7), (7, o_push (.int (12 : Int32)) 9), (9, o_irem 10), (10, o_istore 8 4 12), (12, o_iload 3 13), (13, o_istore 8 5 15), (15, o_push (.int (11 : Int32)) 17), (17, o_istore 8 6 19), (19, o_iload 6 21), (21, oi_lt 62 24), (24, o_iload 3 25), (25, o_iload 4 27), (27, o_iadd 28), (28, o_iload 6 30), (30, o_iadd 31), (31, o_push (.int (12 : Int32)) 33), (33, o_irem 34), (34, o_istore 8 7 36), (36, o_iload 7 38), (38, o_iload 3 39), (39, oc_eq 56 42), (42, o_aload 0 43), (43, o_iload 7 45), (45, o_iload 2 46), (46, o_callVc 107 2 (hX12_hasRoom N) 49), (49, oi_eq 56 52), (52, o_iload 7 54), (54, o_istore 8 5 56), (56, o_inc 8 6 (-1 : Int32) 59), (59, o_goto 19), (62, o_aload 0 63), (63, o_gRc 107 108 66), (66, o_push (.int (28 : Int32)) 68), (68, o_iload 2 69), (69, o_iadd 70), (70, o_iload 5 72), (72, o_iastc 108 100 73), (73, o_aload 0 74), (74, o_gRc 107 108 77), (77, o_push (.int (44 : Int32)) 79), (79, o_iload 2 80), (80, o_iadd 81), (81, o_aload 0 82), (82, o_gRc 107 108 85), (85, o_push (.int (44 : Int32)) 87), (87, o_iload 2 88), (88, o_iadd 89), (89, o_aldc 108 100 90), (90, o_push (.int (1 : Int32)) 91), (91, o_iadd 92), (92, o_iastc 108 100 93), (93, o_aload 0 94), (94, o_gRc 107 108 97), (97, o_push (.int (88 : Int32)) 99), (99, o_iload 1 100), (100, o_iadd 101), (101, o_aload 0 102), (102, o_gRc 107 108 105), (105, o_push (.int (88 : Int32)) 107), (107, o_iload 1 108), (108, o_iadd 109), (109, o_aldc 108 100 110), (110, o_push (.int (1 : Int32)) 111), (111, o_iadd 112), (112, o_iastc 108 100 113), (113, o_aload 0 114), (114, o_gRc 107 108 117), (117, o_push (.int (60 : Int32)) 119), (119, o_iload 2 120), (120, o_iadd 121), (121, o_push (.int (1 : Int32)) 122), (122, o_iastc 108 100 123), (123, o_aload 0 124), (124, o_push (.int (1 : Int32)) 125), (125, o_iload 2 126), (126, o_iload 1 127), (127, o_callVc 107 3 (hX12_notes) 130), (130, o_vret)]
set_option maxRecDepth 200000 in
theorem iX12_isPalmed {l : Launch} {w : nW} (N : Nat) {G : nG} (hG : n_GOK G) : n_AllS l w 5 mX12_isPalmed G (n_fin dv_v G) (aX12_isPalmed N) :=
  n_c (s_aload_n (pc := 0) (k := 0) (by decide +kernel)) <|
  n_c (s_iload_n (pc := 1) (k := 1) (by decide +kernel)) <|
  n_c (s_iload_n (pc := 2) (k := 2) (by decide +kernel)) <|
  n_c (s_iload_n (pc := 3) (k := 3) (by decide +kernel)) <|
  n_c (s_callVc (s_callV (pc := 4) (csX12_farOf N hG) (by decide) okX12_farOf nok12 w_1909 w_101 w_1907 (by decide +kernel)) (gk107 hG)) <|
  n_c (s_bipush (pc := 7) (n := 12) (by decide +kernel) (by decide +kernel)) <|
  n_c (s_irem (pc := 9) (by decide +kernel)) <|
  n_c (s_istore (pc := 10) (by decide +kernel)) <|
  n_c (s_iload_n (pc := 12) (k := 3) (by decide +kernel)) <|
  n_c (s_istore (pc := 13) (by decide +kernel)) <|
  n_c (s_bipush (pc := 15) (n := 11) (by decide +kernel) (by decide +kernel)) <|
  n_c (s_istore (pc := 17) (by decide +kernel)) <|
  n_c (s_iload (pc := 19) (by decide +kernel)) <|
  n_c (s_if_lt (pc := 21) (off := 41) (by decide +kernel) (by decide +kernel)) <|
  n_c (s_iload_n (pc := 24) (k := 3) (by decide +kernel)) <|
  n_c (s_iload (pc := 25) (by decide +kernel)) <|
  n_c (s_iadd (pc := 27) (by decide +kernel)) <|
  n_c (s_iload (pc := 28) (by decide +kernel)) <|
  n_c (s_iadd (pc := 30) (by decide +kernel)) <|
  n_c (s_bipush (pc := 31) (n := 12) (by decide +kernel) (by decide +kernel)) <|
  n_c (s_irem (pc := 33) (by decide +kernel)) <|
  n_c (s_istore (pc := 34) (by decide +kernel)) <|
  n_c (s_iload (pc := 36) (by decide +kernel)) <|
  n_c (s_iload_n (pc := 38) (k := 3) (by decide +kernel)) <|
  n_c (s_icmp_eq (pc := 39) (off := 17) (by decide +kernel) (by decide +kernel)) <|
  n_c (s_aload_n (pc := 42) (k := 0) (by decide +kernel)) <|
  n_c (s_iload (pc := 43) (by decide +kernel)) <|
  n_c (s_iload_n (pc := 45) (k := 2) (by decide +kernel)) <|
  n_c (s_callVc (s_callV (pc := 46) (csX12_hasRoom N hG) (by decide) okX12_hasRoom nok12 w_1847 w_86 w_1845 (by decide +kernel)) (gk107 hG)) <|
  n_c (s_if_eq (pc := 49) (off := 7) (by decide +kernel) (by decide +kernel)) <|
  n_c (s_iload (pc := 52) (by decide +kernel)) <|
  n_c (s_istore (pc := 54) (by decide +kernel)) <|
  n_c (s_iinc (pc := 56) (n := -1) (by decide +kernel) (by decide +kernel)) <|
  n_c (s_goto (pc := 59) (off := -40) (by decide +kernel) (by decide +kernel)) <|
  n_c (s_aload_n (pc := 62) (k := 0) (by decide +kernel)) <|
  n_c (s_gRc (s_getR (pc := 63) (ci := 12) (k := 1) (idx := 7) nok12 (by decide) rfl (by decide +kernel) w_1408) (gk107 hG) (gm107_1 hG)) <|
  n_c (s_bipush (pc := 66) (n := 28) (by decide +kernel) (by decide +kernel)) <|
  n_c (s_iload_n (pc := 68) (k := 2) (by decide +kernel)) <|
  n_c (s_iadd (pc := 69) (by decide +kernel)) <|
  n_c (s_iload (pc := 70) (by decide +kernel)) <|
  n_c (s_iastc (s_iastore (pc := 72) (by decide +kernel)) (gk108 hG) (gl108 hG)) <|
  n_c (s_aload_n (pc := 73) (k := 0) (by decide +kernel)) <|
  n_c (s_gRc (s_getR (pc := 74) (ci := 12) (k := 1) (idx := 7) nok12 (by decide) rfl (by decide +kernel) w_1408) (gk107 hG) (gm107_1 hG)) <|
  n_c (s_bipush (pc := 77) (n := 44) (by decide +kernel) (by decide +kernel)) <|
  n_c (s_iload_n (pc := 79) (k := 2) (by decide +kernel)) <|
  n_c (s_iadd (pc := 80) (by decide +kernel)) <|
  n_c (s_aload_n (pc := 81) (k := 0) (by decide +kernel)) <|
  n_c (s_gRc (s_getR (pc := 82) (ci := 12) (k := 1) (idx := 7) nok12 (by decide) rfl (by decide +kernel) w_1408) (gk107 hG) (gm107_1 hG)) <|
  n_c (s_bipush (pc := 85) (n := 44) (by decide +kernel) (by decide +kernel)) <|
  n_c (s_iload_n (pc := 87) (k := 2) (by decide +kernel)) <|
  n_c (s_iadd (pc := 88) (by decide +kernel)) <|
  n_c (s_aldc (s_iaload (pc := 89) (by decide +kernel)) (gk108 hG) (gl108 hG)) <|
  n_c (s_iconst (pc := 90) (n := 1) (by decide +kernel) (by decide +kernel)) <|
  n_c (s_iadd (pc := 91) (by decide +kernel)) <|
  n_c (s_iastc (s_iastore (pc := 92) (by decide +kernel)) (gk108 hG) (gl108 hG)) <|
  n_c (s_aload_n (pc := 93) (k := 0) (by decide +kernel)) <|
  n_c (s_gRc (s_getR (pc := 94) (ci := 12) (k := 1) (idx := 7) nok12 (by decide) rfl (by decide +kernel) w_1408) (gk107 hG) (gm107_1 hG)) <|
  n_c (s_bipush (pc := 97) (n := 88) (by decide +kernel) (by decide +kernel)) <|
  n_c (s_iload_n (pc := 99) (k := 1) (by decide +kernel)) <|
  n_c (s_iadd (pc := 100) (by decide +kernel)) <|
  n_c (s_aload_n (pc := 101) (k := 0) (by decide +kernel)) <|
  n_c (s_gRc (s_getR (pc := 102) (ci := 12) (k := 1) (idx := 7) nok12 (by decide) rfl (by decide +kernel) w_1408) (gk107 hG) (gm107_1 hG)) <|
  n_c (s_bipush (pc := 105) (n := 88) (by decide +kernel) (by decide +kernel)) <|
  n_c (s_iload_n (pc := 107) (k := 1) (by decide +kernel)) <|
  n_c (s_iadd (pc := 108) (by decide +kernel)) <|
  n_c (s_aldc (s_iaload (pc := 109) (by decide +kernel)) (gk108 hG) (gl108 hG)) <|
  n_c (s_iconst (pc := 110) (n := 1) (by decide +kernel) (by decide +kernel)) <|
  n_c (s_iadd (pc := 111) (by decide +kernel)) <|
  n_c (s_iastc (s_iastore (pc := 112) (by decide +kernel)) (gk108 hG) (gl108 hG)) <|
  n_c (s_aload_n (pc := 113) (k := 0) (by decide +kernel)) <|
  n_c (s_gRc (s_getR (pc := 114) (ci := 12) (k := 1) (idx := 7) nok12 (by decide) rfl (by decide +kernel) w_1408) (gk107 hG) (gm107_1 hG)) <|
  n_c (s_bipush (pc := 117) (n := 60) (by decide +kernel) (by decide +kernel)) <|
  n_c (s_iload_n (pc := 119) (k := 2) (by decide +kernel)) <|
  n_c (s_iadd (pc := 120) (by decide +kernel)) <|
  n_c (s_iconst (pc := 121) (n := 1) (by decide +kernel) (by decide +kernel)) <|
  n_c (s_iastc (s_iastore (pc := 122) (by decide +kernel)) (gk108 hG) (gl108 hG)) <|
  n_c (s_aload_n (pc := 123) (k := 0) (by decide +kernel)) <|
  n_c (s_iconst (pc := 124) (n := 1) (by decide +kernel) (by decide +kernel)) <|
  n_c (s_iload_n (pc := 125) (k := 2) (by decide +kernel)) <|
  n_c (s_iload_n (pc := 126) (k := 1) (by decide +kernel)) <|
  n_c (s_callVc (s_callV (pc := 127) (csX12_notes hG) (by decide) okX12_notes nok12 w_1867 w_91 w_1865 (by decide +kernel)) (gk107 hG)) <|
  n_c (s_vret (pc := 130) rfl (by decide +kernel)) <|
  n_e
def fX12_isPalmed_19 (N : Nat) : Nat → Int32 → Int32 → Int32 → Int32 → Int32 → Int32 → nM → Option (Unit × nM)
  | 0, _, _, _, _, _, _, _ => none
  | n + 1, x1, x2, x3, x4, x5, x6, M =>
    if x6 < 0 then
      n_chk (n_ib 100 ((28 : Int32) + x2)) <|
      let M1 : nM := n_up M 108 ((28 : Int32) + x2).toNatClampNeg x5
      n_chk (n_ib 100 ((44 : Int32) + x2)) <|
      n_chk (n_ib 100 ((44 : Int32) + x2)) <|
      let M2 : nM := n_up M1 108 ((44 : Int32) + x2).toNatClampNeg ((M1 108 ((44 : Int32) + x2).toNatClampNeg) + (1 : Int32))
      n_chk (n_ib 100 ((88 : Int32) + x1)) <|
      n_chk (n_ib 100 ((88 : Int32) + x1)) <|
      let M3 : nM := n_up M2 108 ((88 : Int32) + x1).toNatClampNeg ((M2 108 ((88 : Int32) + x1).toNatClampNeg) + (1 : Int32))
      n_chk (n_ib 100 ((60 : Int32) + x2)) <|
      let M4 : nM := n_up M3 108 ((60 : Int32) + x2).toNatClampNeg (1 : Int32)
      (fX12_notes (1 : Int32) x2 x1 M4).bind fun p5 =>
      some ((), p5.2)
    else
      if (12 : Int32) = 0 then none else
      let v6 : Int32 := (((x3 + x4) + x6) - ((x3 + x4) + x6) / (12 : Int32) * (12 : Int32))
      if v6 = x3 then
        let v7 : Int32 := (x6 + (-1 : Int32))
        fX12_isPalmed_19 N n x1 x2 x3 x4 x5 v7 M
      else
        (fX12_hasRoom N v6 x2 M).bind fun p8 =>
        if p8.1 = 0 then
          let v9 : Int32 := (x6 + (-1 : Int32))
          fX12_isPalmed_19 N n x1 x2 x3 x4 x5 v9 p8.2
        else
          let v10 : Int32 := (x6 + (-1 : Int32))
          fX12_isPalmed_19 N n x1 x2 x3 x4 v6 v10 p8.2
set_option maxRecDepth 200000 in
theorem bX12_isPalmed_19 {l : Launch} {w : nW} (N : Nat) {G : nG} (hG : n_GOK G) : ∀ (n : Nat) (x1 : Int32) (x2 : Int32) (x3 : Int32) (x4 : Int32) (x5 : Int32) (x6 : Int32) (M : nM) (r : Unit × nM), fX12_isPalmed_19 N n x1 x2 x3 x4 x5 x6 M = some r → n_At l w 5 mX12_isPalmed 19 [(0, .ref 107), (1, .int x1), (2, .int x2), (3, .int x3), (4, .int x4), (5, .int x5), (6, .int x6)] [] (G, M) (dv_v r.1, (G, r.2)) := by
  intro n
  induction n with
  | zero => intro x1 x2 x3 x4 x5 x6 M r h; cases (show (none : Option (Unit × nM)) = some r from h)
  | succ n ih =>
    intro x1 x2 x3 x4 x5 x6 M r h
    exact n_seg (fin := n_fin dv_v G) (K := [(19, fun lv st M => n_lC 107 lv 0 (n_lI lv 1 (fun x1 => n_lI lv 2 (fun x2 => n_lI lv 3 (fun x3 => n_lI lv 4 (fun x4 => n_lI lv 5 (fun x5 => n_lI lv 6 (fun x6 => n_pE st (fX12_isPalmed_19 N n x1 x2 x3 x4 x5 x6 M)))))))))]) 77 (iX12_isPalmed N hG) (n_kc (fun lv st M r h => by
      obtain ⟨e0, h1⟩ := n_lC_x h
      obtain ⟨x1, e1, h2⟩ := n_lI_x h1
      obtain ⟨x2, e2, h3⟩ := n_lI_x h2
      obtain ⟨x3, e3, h4⟩ := n_lI_x h3
      obtain ⟨x4, e4, h5⟩ := n_lI_x h4
      obtain ⟨x5, e5, h6⟩ := n_lI_x h5
      obtain ⟨x6, e6, h7⟩ := n_lI_x h6
      obtain ⟨rfl, h8⟩ := n_pE_x h7
      exact n_sub (n_qc e0 (n_qc e1 (n_qc e2 (n_qc e3 (n_qc e4 (n_qc e5 (n_qc e6 n_qe))))))) (ih x1 x2 x3 x4 x5 x6 M r h8)) n_ke) (by rfl) h
def fX12_isPalmed (N : Nat) (x1 : Int32) (x2 : Int32) (x3 : Int32) (M : nM) : Option (Unit × nM) :=
  (fX12_farOf N x1 x2 x3 M).bind fun p1 =>
  if (12 : Int32) = 0 then none else
  let v2 : Int32 := (p1.1 - p1.1 / (12 : Int32) * (12 : Int32))
  fX12_isPalmed_19 N N x1 x2 x3 v2 x3 (11 : Int32) p1.2
set_option maxRecDepth 200000 in
theorem bX12_isPalmed_0 {l : Launch} {w : nW} (N : Nat) {G : nG} (hG : n_GOK G) (x1 : Int32) (x2 : Int32) (x3 : Int32) (M : nM) (r : Unit × nM) (h : fX12_isPalmed N x1 x2 x3 M = some r) : n_At l w 5 mX12_isPalmed 0 [(0, .ref 107), (1, .int x1), (2, .int x2), (3, .int x3)] [] (G, M) (dv_v r.1, (G, r.2)) :=
  n_seg (fin := n_fin dv_v G) (K := [(19, fun lv st M => n_lC 107 lv 0 (n_lI lv 1 (fun x1 => n_lI lv 2 (fun x2 => n_lI lv 3 (fun x3 => n_lI lv 4 (fun x4 => n_lI lv 5 (fun x5 => n_lI lv 6 (fun x6 => n_pE st (fX12_isPalmed_19 N N x1 x2 x3 x4 x5 x6 M)))))))))]) 15 (iX12_isPalmed N hG) (n_kc (fun lv st M r h => by
      obtain ⟨e0, h1⟩ := n_lC_x h
      obtain ⟨x1, e1, h2⟩ := n_lI_x h1
      obtain ⟨x2, e2, h3⟩ := n_lI_x h2
      obtain ⟨x3, e3, h4⟩ := n_lI_x h3
      obtain ⟨x4, e4, h5⟩ := n_lI_x h4
      obtain ⟨x5, e5, h6⟩ := n_lI_x h5
      obtain ⟨x6, e6, h7⟩ := n_lI_x h6
      obtain ⟨rfl, h8⟩ := n_pE_x h7
      exact n_sub (n_qc e0 (n_qc e1 (n_qc e2 (n_qc e3 (n_qc e4 (n_qc e5 (n_qc e6 n_qe))))))) (bX12_isPalmed_19 N hG N x1 x2 x3 x4 x5 x6 M r h8)) n_ke) (by rfl) h
theorem eX12_isPalmed {l : Launch} {w : nW} (N : Nat) {G : nG} (hG : n_GOK G) (z1 : Int32) (z2 : Int32) (z3 : Int32) (M : nM) (r : Unit × nM) (h : fX12_isPalmed N z1 z2 z3 M = some r) : n_Met l w 5 mX12_isPalmed [.ref 107, .int z1, .int z2, .int z3] (G, M) (dv_v r.1, (G, r.2)) :=
  n_entry (by decide +kernel) rfl (Nat.le_of_ble_eq_true rfl) (n_sub (lv := [(0, .ref 107), (1, .int z1), (2, .int z2), (3, .int z3)]) (n_qc rfl (n_qc rfl (n_qc rfl (n_qc rfl n_qe)))) (bX12_isPalmed_0 N hG z1 z2 z3 M r h))
abbrev hX12_isPalmed (N : Nat) : nF := fun T as M k => n_pC 107 as (fun as => n_pI as (fun z1 as => n_pI as (fun z2 as => n_pI as (fun z3 as => n_pE as ((fX12_isPalmed N z1 z2 z3 M).bind fun p => k (dv_v p.1) p.2)))))
theorem csX12_isPalmed {l : Launch} {w : nW} (N : Nat) {G : nG} (hG : n_GOK G) : n_CS l w 5 mX12_isPalmed G (hX12_isPalmed N) := fun T as M k r h => by
  obtain ⟨t0, rfl, h1⟩ := n_pC_x h
  obtain ⟨z1, t1, rfl, h2⟩ := n_pI_x h1
  obtain ⟨z2, t2, rfl, h3⟩ := n_pI_x h2
  obtain ⟨z3, t3, rfl, h4⟩ := n_pI_x h3
  obtain ⟨rfl, hE⟩ := n_pE_x h4
  obtain ⟨p, hp, hk⟩ := Option.bind_eq_some_iff.mp hE
  exact ⟨_, _, eX12_isPalmed N hG z1 z2 z3 M p hp, hk⟩
/-! ===== SleightHouseModel.isPut(III)Z ===== -/
def mX12_isPut : nY := (RX12, yX12_isPut, cX12_isPut, 5, some .boolean)
theorem okX12_isPut : n_MOK mX12_isPut 3 := ⟨w_1864, w_151, ⟨by decide +kernel, by decide +kernel, by decide +kernel⟩, by decide⟩
abbrev aX12_isPut (N : Nat) : List (Nat × nO (Int32 × nM)) := [(0, o_aload 0 1), (1, o_gRc 107 108 4), (4, o_push (.int (28 : Int32)) 6), (6, o_iload 2 7), (7, o_iadd 8), (8, o_iload 3 9), (9, o_iastc 108 100 10), (10, o_aload 0 11), (11, o_gRc 107 108 14), (14, o_push (.int (44 : Int32)) 16), (16, o_iload 2 17), (17, o_iadd 18), (18, o_aload 0 19), (19, o_gRc 107 108 22), (22, o_push (.int (44 : Int32)) 24), (24, o_iload 2 25), (25, o_iadd 26), (26, o_aldc 108 100 27), (27, o_push (.int (1 : Int32)) 28), (28, o_iadd 29), (29, o_iastc 108 100 30), (30, o_aload 0 31), (31, o_gRc 107 108 34), (34, o_push (.int (60 : Int32)) 36), (36, o_iload 2 37), (37, o_iadd 38), (38, o_push (.int (0 : Int32)) 39), (39, o_iastc 108 100 40), (40, o_aload 0 41), (41, o_push (.int (0 : Int32)) 42), (42, o_iload 2 43), (43, o_iload 3 44), (44, o_callVc 107 3 (hX12_notes) 47), (47, o_aload 0 48), (48, o_iload 1 49), (49, o_iload 2 50), (50, o_iload 3 51), (51, o_callVc 107 3 (hX12_palmsOf N) 54), (54, o_istore 5 4 56), (56, o_iload 4 58), (58, oi_eq 70 61), (61, o_aload 0 62), (62, o_iload 4 64), (64, o_callVc 107 1 (hX12_comes) 67), (67, oi_ne 72 70), (70, o_push (.int (0 : Int32)) 71), (71, o_zret), (72, o_aload 0 73), (73, o_iload 1 74), (74, o_iload 2 75), (75, o_iload 3 76), (76, o_callVc 107 3 (hX12_isPalmed N) 79), (79, o_push (.int (1 : Int32)) 80), (80, o_zret)]
set_option maxRecDepth 200000 in
theorem iX12_isPut {l : Launch} {w : nW} (N : Nat) {G : nG} (hG : n_GOK G) : n_AllS l w 6 mX12_isPut G (n_fin dv_i G) (aX12_isPut N) :=
  n_c (s_aload_n (pc := 0) (k := 0) (by decide +kernel)) <|
  n_c (s_gRc (s_getR (pc := 1) (ci := 12) (k := 1) (idx := 7) nok12 (by decide) rfl (by decide +kernel) w_1408) (gk107 hG) (gm107_1 hG)) <|
  n_c (s_bipush (pc := 4) (n := 28) (by decide +kernel) (by decide +kernel)) <|
  n_c (s_iload_n (pc := 6) (k := 2) (by decide +kernel)) <|
  n_c (s_iadd (pc := 7) (by decide +kernel)) <|
  n_c (s_iload_n (pc := 8) (k := 3) (by decide +kernel)) <|
  n_c (s_iastc (s_iastore (pc := 9) (by decide +kernel)) (gk108 hG) (gl108 hG)) <|
  n_c (s_aload_n (pc := 10) (k := 0) (by decide +kernel)) <|
  n_c (s_gRc (s_getR (pc := 11) (ci := 12) (k := 1) (idx := 7) nok12 (by decide) rfl (by decide +kernel) w_1408) (gk107 hG) (gm107_1 hG)) <|
  n_c (s_bipush (pc := 14) (n := 44) (by decide +kernel) (by decide +kernel)) <|
  n_c (s_iload_n (pc := 16) (k := 2) (by decide +kernel)) <|
  n_c (s_iadd (pc := 17) (by decide +kernel)) <|
  n_c (s_aload_n (pc := 18) (k := 0) (by decide +kernel)) <|
  n_c (s_gRc (s_getR (pc := 19) (ci := 12) (k := 1) (idx := 7) nok12 (by decide) rfl (by decide +kernel) w_1408) (gk107 hG) (gm107_1 hG)) <|
  n_c (s_bipush (pc := 22) (n := 44) (by decide +kernel) (by decide +kernel)) <|
  n_c (s_iload_n (pc := 24) (k := 2) (by decide +kernel)) <|
  n_c (s_iadd (pc := 25) (by decide +kernel)) <|
  n_c (s_aldc (s_iaload (pc := 26) (by decide +kernel)) (gk108 hG) (gl108 hG)) <|
  n_c (s_iconst (pc := 27) (n := 1) (by decide +kernel) (by decide +kernel)) <|
  n_c (s_iadd (pc := 28) (by decide +kernel)) <|
  n_c (s_iastc (s_iastore (pc := 29) (by decide +kernel)) (gk108 hG) (gl108 hG)) <|
  n_c (s_aload_n (pc := 30) (k := 0) (by decide +kernel)) <|
  n_c (s_gRc (s_getR (pc := 31) (ci := 12) (k := 1) (idx := 7) nok12 (by decide) rfl (by decide +kernel) w_1408) (gk107 hG) (gm107_1 hG)) <|
  n_c (s_bipush (pc := 34) (n := 60) (by decide +kernel) (by decide +kernel)) <|
  n_c (s_iload_n (pc := 36) (k := 2) (by decide +kernel)) <|
  n_c (s_iadd (pc := 37) (by decide +kernel)) <|
  n_c (s_iconst (pc := 38) (n := 0) (by decide +kernel) (by decide +kernel)) <|
  n_c (s_iastc (s_iastore (pc := 39) (by decide +kernel)) (gk108 hG) (gl108 hG)) <|
  n_c (s_aload_n (pc := 40) (k := 0) (by decide +kernel)) <|
  n_c (s_iconst (pc := 41) (n := 0) (by decide +kernel) (by decide +kernel)) <|
  n_c (s_iload_n (pc := 42) (k := 2) (by decide +kernel)) <|
  n_c (s_iload_n (pc := 43) (k := 3) (by decide +kernel)) <|
  n_c (s_callVc (s_callV (pc := 44) (csX12_notes hG) (by decide) okX12_notes nok12 w_1867 w_91 w_1865 (by decide +kernel)) (gk107 hG)) <|
  n_c (s_aload_n (pc := 47) (k := 0) (by decide +kernel)) <|
  n_c (s_iload_n (pc := 48) (k := 1) (by decide +kernel)) <|
  n_c (s_iload_n (pc := 49) (k := 2) (by decide +kernel)) <|
  n_c (s_iload_n (pc := 50) (k := 3) (by decide +kernel)) <|
  n_c (s_callVc (s_callV (pc := 51) (csX12_palmsOf N hG) (by decide) okX12_palmsOf nok12 w_1871 w_92 w_1869 (by decide +kernel)) (gk107 hG)) <|
  n_c (s_istore (pc := 54) (by decide +kernel)) <|
  n_c (s_iload (pc := 56) (by decide +kernel)) <|
  n_c (s_if_eq (pc := 58) (off := 12) (by decide +kernel) (by decide +kernel)) <|
  n_c (s_aload_n (pc := 61) (k := 0) (by decide +kernel)) <|
  n_c (s_iload (pc := 62) (by decide +kernel)) <|
  n_c (s_callVc (s_callV (pc := 64) (csX12_comes hG) (by decide) okX12_comes nok12 w_1895 w_98 w_1893 (by decide +kernel)) (gk107 hG)) <|
  n_c (s_if_ne (pc := 67) (off := 5) (by decide +kernel) (by decide +kernel)) <|
  n_c (s_iconst (pc := 70) (n := 0) (by decide +kernel) (by decide +kernel)) <|
  n_c (s_zret (pc := 71) rfl (by decide +kernel)) <|
  n_c (s_aload_n (pc := 72) (k := 0) (by decide +kernel)) <|
  n_c (s_iload_n (pc := 73) (k := 1) (by decide +kernel)) <|
  n_c (s_iload_n (pc := 74) (k := 2) (by decide +kernel)) <|
  n_c (s_iload_n (pc := 75) (k := 3) (by decide +kernel)) <|
  n_c (s_callVc (s_callV (pc := 76) (csX12_isPalmed N hG) (by decide) okX12_isPalmed nok12 w_1905 w_100 w_1903 (by decide +kernel)) (gk107 hG)) <|
  n_c (s_iconst (pc := 79) (n := 1) (by decide +kernel) (by decide +kernel)) <|
  n_c (s_zret (pc := 80) rfl (by decide +kernel)) <|
  n_e
def fX12_isPut (N : Nat) (x1 : Int32) (x2 : Int32) (x3 : Int32) (M : nM) : Option (Int32 × nM) :=
  n_chk (n_ib 100 ((28 : Int32) + x2)) <|
  let M1 : nM := n_up M 108 ((28 : Int32) + x2).toNatClampNeg x3
  n_chk (n_ib 100 ((44 : Int32) + x2)) <|
  n_chk (n_ib 100 ((44 : Int32) + x2)) <|
  let M2 : nM := n_up M1 108 ((44 : Int32) + x2).toNatClampNeg ((M1 108 ((44 : Int32) + x2).toNatClampNeg) + (1 : Int32))
  n_chk (n_ib 100 ((60 : Int32) + x2)) <|
  let M3 : nM := n_up M2 108 ((60 : Int32) + x2).toNatClampNeg (0 : Int32)
  (fX12_notes (0 : Int32) x2 x3 M3).bind fun p4 =>
  (fX12_palmsOf N x1 x2 x3 p4.2).bind fun p5 =>
  if p5.1 = 0 then
    some ((0 : Int32), p5.2)
  else
    (fX12_comes p5.1 p5.2).bind fun p6 =>
    if ¬ p6.1 = 0 then
      (fX12_isPalmed N x1 x2 x3 p6.2).bind fun p7 =>
      some ((1 : Int32), p7.2)
    else
      some ((0 : Int32), p6.2)
set_option maxRecDepth 200000 in
theorem bX12_isPut_0 {l : Launch} {w : nW} (N : Nat) {G : nG} (hG : n_GOK G) (x1 : Int32) (x2 : Int32) (x3 : Int32) (M : nM) (r : Int32 × nM) (h : fX12_isPut N x1 x2 x3 M = some r) : n_At l w 6 mX12_isPut 0 [(0, .ref 107), (1, .int x1), (2, .int x2), (3, .int x3)] [] (G, M) (dv_i r.1, (G, r.2)) :=
  n_seg (fin := n_fin dv_i G) (K := []) 59 (iX12_isPut N hG) n_ke (by rfl) h
theorem eX12_isPut {l : Launch} {w : nW} (N : Nat) {G : nG} (hG : n_GOK G) (z1 : Int32) (z2 : Int32) (z3 : Int32) (M : nM) (r : Int32 × nM) (h : fX12_isPut N z1 z2 z3 M = some r) : n_Met l w 6 mX12_isPut [.ref 107, .int z1, .int z2, .int z3] (G, M) (dv_i r.1, (G, r.2)) :=
  n_entry (by decide +kernel) rfl (Nat.le_of_ble_eq_true rfl) (n_sub (lv := [(0, .ref 107), (1, .int z1), (2, .int z2), (3, .int z3)]) (n_qc rfl (n_qc rfl (n_qc rfl (n_qc rfl n_qe)))) (bX12_isPut_0 N hG z1 z2 z3 M r h))
abbrev hX12_isPut (N : Nat) : nF := fun T as M k => n_pC 107 as (fun as => n_pI as (fun z1 as => n_pI as (fun z2 as => n_pI as (fun z3 as => n_pE as ((fX12_isPut N z1 z2 z3 M).bind fun p => k (dv_i p.1) p.2)))))
theorem csX12_isPut {l : Launch} {w : nW} (N : Nat) {G : nG} (hG : n_GOK G) : n_CS l w 6 mX12_isPut G (hX12_isPut N) := fun T as M k r h => by
  obtain ⟨t0, rfl, h1⟩ := n_pC_x h
  obtain ⟨z1, t1, rfl, h2⟩ := n_pI_x h1
  obtain ⟨z2, t2, rfl, h3⟩ := n_pI_x h2
  obtain ⟨z3, t3, rfl, h4⟩ := n_pI_x h3
  obtain ⟨rfl, hE⟩ := n_pE_x h4
  obtain ⟨p, hp, hk⟩ := Option.bind_eq_some_iff.mp hE
  exact ⟨_, _, eX12_isPut N hG z1 z2 z3 M p hp, hk⟩
/-! ===== SleightHouseModel.puts(III)I ===== -/
def mX12_puts : nY := (RX12, yX12_puts, cX12_puts, 4, some .int)
theorem okX12_puts : n_MOK mX12_puts 3 := ⟨w_1840, w_151, ⟨by decide +kernel, by decide +kernel, by decide +kernel⟩, by decide⟩
abbrev aX12_puts (N : Nat) : List (Nat × nO (Int32 × nM)) := [(0, o_aload 0 1), (1, o_push (.int (0 : Int32)) 2), (2, o_pIc 107 0 5), (5, o_aload 0 6), (6, o_iload 1 7), (7, o_iload 2 8), (8, o_iload 3 9), (9, o_callVc 107 3 (hX12_canPut N) 12), (12, oi_ne 17 15), (15, o_push (.int (-1 : Int32)) 16), (16, o_iret), (17, o_aload 0 18), (18, o_callVc 107 0 (hX12_keepsAhead N) 21), (21, o_aload 0 22), (22, o_iload 1 23), (23, o_iload 2 24), (24, o_iload 3 25), (25, o_callVc 107 3 (hX12_isPut N) 28), (28, o_pop 29), (29, o_aload 0 30), (30, o_gRc 107 108 33), (33, o_push (.int (28 : Int32)) 35), (35, o_iload 2 36), (36, o_iadd 37), (37, o_aldc 108 100 38), (38, o_iret)]
set_option maxRecDepth 200000 in
theorem iX12_puts {l : Launch} {w : nW} (N : Nat) {G : nG} (hG : n_GOK G) : n_AllS l w 7 mX12_puts G (n_fin dv_i G) (aX12_puts N) :=
  n_c (s_aload_n (pc := 0) (k := 0) (by decide +kernel)) <|
  n_c (s_iconst (pc := 1) (n := 0) (by decide +kernel) (by decide +kernel)) <|
  n_c (s_pIc (s_putI (pc := 2) (ci := 12) (k := 0) (idx := 146) nok12 (by decide) rfl rfl (by decide +kernel) w_1407) (gk107 hG)) <|
  n_c (s_aload_n (pc := 5) (k := 0) (by decide +kernel)) <|
  n_c (s_iload_n (pc := 6) (k := 1) (by decide +kernel)) <|
  n_c (s_iload_n (pc := 7) (k := 2) (by decide +kernel)) <|
  n_c (s_iload_n (pc := 8) (k := 3) (by decide +kernel)) <|
  n_c (s_callVc (s_callV (pc := 9) (csX12_canPut N hG) (by decide) okX12_canPut nok12 w_1843 w_85 w_1841 (by decide +kernel)) (gk107 hG)) <|
  n_c (s_if_ne (pc := 12) (off := 5) (by decide +kernel) (by decide +kernel)) <|
  n_c (s_iconst (pc := 15) (n := -1) (by decide +kernel) (by decide +kernel)) <|
  n_c (s_iret (pc := 16) rfl (by decide +kernel)) <|
  n_c (s_aload_n (pc := 17) (k := 0) (by decide +kernel)) <|
  n_c (s_callVc (s_callV (pc := 18) (csX12_keepsAhead N hG) (by decide) okX12_keepsAhead nok12 w_1859 w_89 w_1857 (by decide +kernel)) (gk107 hG)) <|
  n_c (s_aload_n (pc := 21) (k := 0) (by decide +kernel)) <|
  n_c (s_iload_n (pc := 22) (k := 1) (by decide +kernel)) <|
  n_c (s_iload_n (pc := 23) (k := 2) (by decide +kernel)) <|
  n_c (s_iload_n (pc := 24) (k := 3) (by decide +kernel)) <|
  n_c (s_callVc (s_callV (pc := 25) (csX12_isPut N hG) (by decide) okX12_isPut nok12 w_1863 w_90 w_1861 (by decide +kernel)) (gk107 hG)) <|
  n_c (s_pop (pc := 28) (by decide +kernel)) <|
  n_c (s_aload_n (pc := 29) (k := 0) (by decide +kernel)) <|
  n_c (s_gRc (s_getR (pc := 30) (ci := 12) (k := 1) (idx := 7) nok12 (by decide) rfl (by decide +kernel) w_1408) (gk107 hG) (gm107_1 hG)) <|
  n_c (s_bipush (pc := 33) (n := 28) (by decide +kernel) (by decide +kernel)) <|
  n_c (s_iload_n (pc := 35) (k := 2) (by decide +kernel)) <|
  n_c (s_iadd (pc := 36) (by decide +kernel)) <|
  n_c (s_aldc (s_iaload (pc := 37) (by decide +kernel)) (gk108 hG) (gl108 hG)) <|
  n_c (s_iret (pc := 38) rfl (by decide +kernel)) <|
  n_e
def fX12_puts (N : Nat) (x1 : Int32) (x2 : Int32) (x3 : Int32) (M : nM) : Option (Int32 × nM) :=
  let M1 : nM := n_up M 107 0 (0 : Int32)
  (fX12_canPut N x1 x2 x3 M1).bind fun p2 =>
  if ¬ p2.1 = 0 then
    (fX12_keepsAhead N p2.2).bind fun p3 =>
    (fX12_isPut N x1 x2 x3 p3.2).bind fun p4 =>
    n_chk (n_ib 100 ((28 : Int32) + x2)) <|
    some ((p4.2 108 ((28 : Int32) + x2).toNatClampNeg), p4.2)
  else
    some ((-1 : Int32), p2.2)
set_option maxRecDepth 200000 in
theorem bX12_puts_0 {l : Launch} {w : nW} (N : Nat) {G : nG} (hG : n_GOK G) (x1 : Int32) (x2 : Int32) (x3 : Int32) (M : nM) (r : Int32 × nM) (h : fX12_puts N x1 x2 x3 M = some r) : n_At l w 7 mX12_puts 0 [(0, .ref 107), (1, .int x1), (2, .int x2), (3, .int x3)] [] (G, M) (dv_i r.1, (G, r.2)) :=
  n_seg (fin := n_fin dv_i G) (K := []) 29 (iX12_puts N hG) n_ke (by rfl) h
theorem eX12_puts {l : Launch} {w : nW} (N : Nat) {G : nG} (hG : n_GOK G) (z1 : Int32) (z2 : Int32) (z3 : Int32) (M : nM) (r : Int32 × nM) (h : fX12_puts N z1 z2 z3 M = some r) : n_Met l w 7 mX12_puts [.ref 107, .int z1, .int z2, .int z3] (G, M) (dv_i r.1, (G, r.2)) :=
  n_entry (by decide +kernel) rfl (Nat.le_of_ble_eq_true rfl) (n_sub (lv := [(0, .ref 107), (1, .int z1), (2, .int z2), (3, .int z3)]) (n_qc rfl (n_qc rfl (n_qc rfl (n_qc rfl n_qe)))) (bX12_puts_0 N hG z1 z2 z3 M r h))
abbrev hX12_puts (N : Nat) : nF := fun T as M k => n_pC 107 as (fun as => n_pI as (fun z1 as => n_pI as (fun z2 as => n_pI as (fun z3 as => n_pE as ((fX12_puts N z1 z2 z3 M).bind fun p => k (dv_i p.1) p.2)))))
theorem csX12_puts {l : Launch} {w : nW} (N : Nat) {G : nG} (hG : n_GOK G) : n_CS l w 7 mX12_puts G (hX12_puts N) := fun T as M k r h => by
  obtain ⟨t0, rfl, h1⟩ := n_pC_x h
  obtain ⟨z1, t1, rfl, h2⟩ := n_pI_x h1
  obtain ⟨z2, t2, rfl, h3⟩ := n_pI_x h2
  obtain ⟨z3, t3, rfl, h4⟩ := n_pI_x h3
  obtain ⟨rfl, hE⟩ := n_pE_x h4
  obtain ⟨p, hp, hk⟩ := Option.bind_eq_some_iff.mp hE
  exact ⟨_, _, eX12_puts N hG z1 z2 z3 M p hp, hk⟩
/-! ===== SleightHouse$Doings.canSearch(LSleightHouse$Moving;II)Z ===== -/
def mX0_canSearch : nY := (RX0, yX0_canSearch, cX0_canSearch, 4, some .boolean)
theorem okX0_canSearch : n_MOK mX0_canSearch 3 := ⟨w_767, w_146, ⟨by decide +kernel, by decide +kernel, by decide +kernel⟩, by decide⟩
abbrev aX0_canSearch (G : nG) : List (Nat × nO (Int32 × nM)) := [(0, o_aload 0 1), (1, o_gRc 45 2 4), (4, o_iload 2 5), (5, o_callVc 2 1 (hX1_hasPerson) 8), (8, oi_eq 37 11), (11, o_aload 0 12), (12, o_gRc 45 2 15), (15, o_iload 3 16), (16, o_callVc 2 1 (hX1_hasPlace) 19), (19, oi_eq 37 22), (22, o_aload 1 23), (23, o_getI G 4 6 26), (26, o_iload 2 27), (27, o_call 2 (hX4_hasBit) 30), (30, oi_ne 37 33), (33, o_push (.int (1 : Int32)) 34), (34, o_goto 38), (37, o_push (.int (0 : Int32)) 38), (38, o_zret)]
set_option maxRecDepth 200000 in
theorem iX0_canSearch {l : Launch} {w : nW} {G : nG} (hG : n_GOK G) : n_AllS l w 2 mX0_canSearch G (n_fin dv_i G) (aX0_canSearch G) :=
  n_c (s_aload_n (pc := 0) (k := 0) (by decide +kernel)) <|
  n_c (s_gRc (s_getR (pc := 1) (ci := 0) (k := 0) (idx := 20) nok0 (by decide) rfl (by decide +kernel) w_446) (gk45 hG) (gm45_0 hG)) <|
  n_c (s_iload_n (pc := 4) (k := 2) (by decide +kernel)) <|
  n_c (s_callVc (s_callV (pc := 5) (csX1_hasPerson hG) (by decide) okX1_hasPerson nok1 w_660 w_661 w_671 (by decide +kernel)) (gk2 hG)) <|
  n_c (s_if_eq (pc := 8) (off := 29) (by decide +kernel) (by decide +kernel)) <|
  n_c (s_aload_n (pc := 11) (k := 0) (by decide +kernel)) <|
  n_c (s_gRc (s_getR (pc := 12) (ci := 0) (k := 0) (idx := 20) nok0 (by decide) rfl (by decide +kernel) w_446) (gk45 hG) (gm45_0 hG)) <|
  n_c (s_iload_n (pc := 15) (k := 3) (by decide +kernel)) <|
  n_c (s_callVc (s_callV (pc := 16) (csX1_hasPlace) (by decide) okX1_hasPlace nok1 w_613 w_614 w_673 (by decide +kernel)) (gk2 hG)) <|
  n_c (s_if_eq (pc := 19) (off := 18) (by decide +kernel) (by decide +kernel)) <|
  n_c (s_aload_n (pc := 22) (k := 1) (by decide +kernel)) <|
  n_c (s_getI (pc := 23) (ci := 4) (k := 6) (idx := 139) nok4 (by decide) rfl (by decide +kernel) w_246) <|
  n_c (s_iload_n (pc := 26) (k := 2) (by decide +kernel)) <|
  n_c (s_callS (pc := 27) (csX4_hasBit) (by decide) okX4_hasBit w_675 w_674 (by decide +kernel)) <|
  n_c (s_if_ne (pc := 30) (off := 7) (by decide +kernel) (by decide +kernel)) <|
  n_c (s_iconst (pc := 33) (n := 1) (by decide +kernel) (by decide +kernel)) <|
  n_c (s_goto (pc := 34) (off := 4) (by decide +kernel) (by decide +kernel)) <|
  n_c (s_iconst (pc := 37) (n := 0) (by decide +kernel) (by decide +kernel)) <|
  n_c (s_zret (pc := 38) rfl (by decide +kernel)) <|
  n_e
def fX0_canSearch (G : nG) (x1 : Nat) (x2 : Int32) (x3 : Int32) (M : nM) : Option (Int32 × nM) :=
  (fX1_hasPerson x2 M).bind fun p1 =>
  if p1.1 = 0 then
    some ((0 : Int32), p1.2)
  else
    (fX1_hasPlace x3 p1.2).bind fun p2 =>
    if p2.1 = 0 then
      some ((0 : Int32), p2.2)
    else
      n_chk (Nat.beq (n_kd G x1) 4) <|
      (fX4_hasBit (p2.2 x1 6) x2 p2.2).bind fun p3 =>
      if ¬ p3.1 = 0 then
        some ((0 : Int32), p3.2)
      else
        some ((1 : Int32), p3.2)
set_option maxRecDepth 200000 in
theorem bX0_canSearch_0 {l : Launch} {w : nW} {G : nG} (hG : n_GOK G) (x1 : Nat) (x2 : Int32) (x3 : Int32) (M : nM) (r : Int32 × nM) (h : fX0_canSearch G x1 x2 x3 M = some r) : n_At l w 2 mX0_canSearch 0 [(0, .ref 45), (1, .ref x1), (2, .int x2), (3, .int x3)] [] (G, M) (dv_i r.1, (G, r.2)) :=
  n_seg (fin := n_fin dv_i G) (K := []) 27 (iX0_canSearch hG) n_ke (by rfl) h
theorem eX0_canSearch {l : Launch} {w : nW} {G : nG} (hG : n_GOK G) (z1 : Nat) (z2 : Int32) (z3 : Int32) (M : nM) (r : Int32 × nM) (h : fX0_canSearch G z1 z2 z3 M = some r) : n_Met l w 2 mX0_canSearch [.ref 45, .ref z1, .int z2, .int z3] (G, M) (dv_i r.1, (G, r.2)) :=
  n_entry (by decide +kernel) rfl (Nat.le_of_ble_eq_true rfl) (n_sub (lv := [(0, .ref 45), (1, .ref z1), (2, .int z2), (3, .int z3)]) (n_qc rfl (n_qc rfl (n_qc rfl (n_qc rfl n_qe)))) (bX0_canSearch_0 hG z1 z2 z3 M r h))
abbrev hX0_canSearch (G : nG) : nF := fun T as M k => n_pC 45 as (fun as => n_pR as (fun z1 as => n_pI as (fun z2 as => n_pI as (fun z3 as => n_pE as ((fX0_canSearch G z1 z2 z3 M).bind fun p => k (dv_i p.1) p.2)))))
theorem csX0_canSearch {l : Launch} {w : nW} {G : nG} (hG : n_GOK G) : n_CS l w 2 mX0_canSearch G (hX0_canSearch G) := fun T as M k r h => by
  obtain ⟨t0, rfl, h1⟩ := n_pC_x h
  obtain ⟨z1, t1, rfl, h2⟩ := n_pR_x h1
  obtain ⟨z2, t2, rfl, h3⟩ := n_pI_x h2
  obtain ⟨z3, t3, rfl, h4⟩ := n_pI_x h3
  obtain ⟨rfl, hE⟩ := n_pE_x h4
  obtain ⟨p, hp, hk⟩ := Option.bind_eq_some_iff.mp hE
  exact ⟨_, _, eX0_canSearch hG z1 z2 z3 M p hp, hk⟩
/-! ===== SleightHouse$Doings.searchPlace(LSleightHouse$Moving;II)I ===== -/
def mX0_searchPlace : nY := (RX0, yX0_searchPlace, cX0_searchPlace, 6, some .int)
theorem okX0_searchPlace : n_MOK mX0_searchPlace 3 := ⟨w_771, w_146, ⟨by decide +kernel, by decide +kernel, by decide +kernel⟩, by decide⟩
abbrev aX0_searchPlace (N : Nat) (G : nG) : List (Nat × nO (Int32 × nM)) := [(0, o_aload 1 1), (1, o_getR G 4 4 4), (4, o_iload 3 5), (5, o_dup2 6), (6, o_ald G 14 7), (7, o_push (.int (1 : Int32)) 8), (8, o_iadd 9), (9, o_iastore G 10), (10, o_aload 0 11), (11, o_aload 1 12), (12, o_push (.int (2 : Int32)) 13), (13, o_iload 3 14), (14, o_iload 2 15), (15, o_callVc 45 4 (hX0_note G) 18), (18, o_aload 1 19), (19, o_getI G 4 7 22), (22, o_iload 3 23), (23, o_call 2 (hX4_hasBit) 26), (26, oi_eq 31 29), (29, o_push (.int (0 : Int32)) 30), (30, o_iret), (31, o_push (.int (0 : Int32)) 32), (32, o_istore 6 4 34), (34, o_push (.int (0 : Int32)) 35), (35, o_istore 6 5 37), (37, o_iload 5 39), (39, o_aload 0 40), (40, o_gRc 45 2 43), (43, o_gRc 2 3 46), (46, o_gIc 3 5 49), (49, oc_ge 135 52), (52, o_aload 1 53), (53, o_getR G 4 1 56), (56, o_iload 5 58), (58, o_ald G 14 59), (59, o_iload 3 60), (60, oc_ne 129 63), (63, o_aload 1 64), (64, o_getI G 4 5 67), (67, o_iload 5 69), (69, o_call 2 (hX4_hasBit) 72), (72, oi_eq 129 75), (75, o_aload 0 76), (76, o_aload 1 77), (77, o_aload 0 78), (78, o_aload 1 79), (79, o_push (.int (2 : Int32)) 80), (80, o_iload 2 81), (81, o_iload 5 83), (83, o_iload 3 84), (84, o_callVc 45 5 (hX0_asked N G) 87), (87, o_callVc 45 2 (hX0_comesToPass G) 90), (90, oi_eq 129 93), (93, o_aload 1 94), (94, o_aload 1 95), (95, o_getI G 4 5 98), (98, o_iload 5 100), (100, o_push (.int (0 : Int32)) 101), (101, o_call 3 (hX4_withBit) 104), (104, o_putI G 4 5 107), (107, o_aload 1 108), (108, o_dup 109), (109, o_getI G 4 8 112), (112, o_push (.int (1 : Int32)) 113), (113, o_iadd 114), (114, o_putI G 4 8 117), (117, o_inc 6 4 (1 : Int32) 120), (120, o_aload 0 121), (121, o_aload 1 122), (122, o_push (.int (3 : Int32)) 123), (123, o_iload 5 125), (125, o_iload 2 126), (126, o_callVc 45 4 (hX0_note G) 129), (129, o_inc 6 5 (1 : Int32) 132), (132, o_goto 37), (135, o_iload 4 137), (137, o_iret)]
set_option maxRecDepth 200000 in
theorem iX0_searchPlace {l : Launch} {w : nW} (N : Nat) {G : nG} (hG : n_GOK G) : n_AllS l w 4 mX0_searchPlace G (n_fin dv_i G) (aX0_searchPlace N G) :=
  n_c (s_aload_n (pc := 0) (k := 1) (by decide +kernel)) <|
  n_c (s_getR (pc := 1) (ci := 4) (k := 4) (idx := 168) nok4 (by decide) rfl (by decide +kernel) w_240) <|
  n_c (s_iload_n (pc := 4) (k := 3) (by decide +kernel)) <|
  n_c (s_dup2 (pc := 5) (by decide +kernel)) <|
  n_c (s_iaload (pc := 6) (by decide +kernel)) <|
  n_c (s_iconst (pc := 7) (n := 1) (by decide +kernel) (by decide +kernel)) <|
  n_c (s_iadd (pc := 8) (by decide +kernel)) <|
  n_c (s_iastore (pc := 9) (by decide +kernel)) <|
  n_c (s_aload_n (pc := 10) (k := 0) (by decide +kernel)) <|
  n_c (s_aload_n (pc := 11) (k := 1) (by decide +kernel)) <|
  n_c (s_iconst (pc := 12) (n := 2) (by decide +kernel) (by decide +kernel)) <|
  n_c (s_iload_n (pc := 13) (k := 3) (by decide +kernel)) <|
  n_c (s_iload_n (pc := 14) (k := 2) (by decide +kernel)) <|
  n_c (s_callVc (s_callV (pc := 15) (csX0_note hG) (by decide) okX0_note nok0 w_707 w_3 w_705 (by decide +kernel)) (gk45 hG)) <|
  n_c (s_aload_n (pc := 18) (k := 1) (by decide +kernel)) <|
  n_c (s_getI (pc := 19) (ci := 4) (k := 7) (idx := 89) nok4 (by decide) rfl (by decide +kernel) w_249) <|
  n_c (s_iload_n (pc := 22) (k := 3) (by decide +kernel)) <|
  n_c (s_callS (pc := 23) (csX4_hasBit) (by decide) okX4_hasBit w_675 w_674 (by decide +kernel)) <|
  n_c (s_if_eq (pc := 26) (off := 5) (by decide +kernel) (by decide +kernel)) <|
  n_c (s_iconst (pc := 29) (n := 0) (by decide +kernel) (by decide +kernel)) <|
  n_c (s_iret (pc := 30) rfl (by decide +kernel)) <|
  n_c (s_iconst (pc := 31) (n := 0) (by decide +kernel) (by decide +kernel)) <|
  n_c (s_istore (pc := 32) (by decide +kernel)) <|
  n_c (s_iconst (pc := 34) (n := 0) (by decide +kernel) (by decide +kernel)) <|
  n_c (s_istore (pc := 35) (by decide +kernel)) <|
  n_c (s_iload (pc := 37) (by decide +kernel)) <|
  n_c (s_aload_n (pc := 39) (k := 0) (by decide +kernel)) <|
  n_c (s_gRc (s_getR (pc := 40) (ci := 0) (k := 0) (idx := 20) nok0 (by decide) rfl (by decide +kernel) w_446) (gk45 hG) (gm45_0 hG)) <|
  n_c (s_gRc (s_getR (pc := 43) (ci := 1) (k := 0) (idx := 24) nok1 (by decide) rfl (by decide +kernel) w_404) (gk2 hG) (gm2_0 hG)) <|
  n_c (s_gIc (s_getI (pc := 46) (ci := 8) (k := 5) (idx := 30) nok8 (by decide) rfl (by decide +kernel) w_198) (gk3 hG)) <|
  n_c (s_icmp_ge (pc := 49) (off := 86) (by decide +kernel) (by decide +kernel)) <|
  n_c (s_aload_n (pc := 52) (k := 1) (by decide +kernel)) <|
  n_c (s_getR (pc := 53) (ci := 4) (k := 1) (idx := 36) nok4 (by decide) rfl (by decide +kernel) w_231) <|
  n_c (s_iload (pc := 56) (by decide +kernel)) <|
  n_c (s_iaload (pc := 58) (by decide +kernel)) <|
  n_c (s_iload_n (pc := 59) (k := 3) (by decide +kernel)) <|
  n_c (s_icmp_ne (pc := 60) (off := 69) (by decide +kernel) (by decide +kernel)) <|
  n_c (s_aload_n (pc := 63) (k := 1) (by decide +kernel)) <|
  n_c (s_getI (pc := 64) (ci := 4) (k := 5) (idx := 98) nok4 (by decide) rfl (by decide +kernel) w_243) <|
  n_c (s_iload (pc := 67) (by decide +kernel)) <|
  n_c (s_callS (pc := 69) (csX4_hasBit) (by decide) okX4_hasBit w_675 w_674 (by decide +kernel)) <|
  n_c (s_if_eq (pc := 72) (off := 57) (by decide +kernel) (by decide +kernel)) <|
  n_c (s_aload_n (pc := 75) (k := 0) (by decide +kernel)) <|
  n_c (s_aload_n (pc := 76) (k := 1) (by decide +kernel)) <|
  n_c (s_aload_n (pc := 77) (k := 0) (by decide +kernel)) <|
  n_c (s_aload_n (pc := 78) (k := 1) (by decide +kernel)) <|
  n_c (s_iconst (pc := 79) (n := 2) (by decide +kernel) (by decide +kernel)) <|
  n_c (s_iload_n (pc := 80) (k := 2) (by decide +kernel)) <|
  n_c (s_iload (pc := 81) (by decide +kernel)) <|
  n_c (s_iload_n (pc := 83) (k := 3) (by decide +kernel)) <|
  n_c (s_callVc (s_callV (pc := 84) (csX0_asked N hG) (by decide) okX0_asked nok0 w_714 w_715 w_713 (by decide +kernel)) (gk45 hG)) <|
  n_c (s_callVc (s_callV (pc := 87) (csX0_comesToPass) (by decide) okX0_comesToPass nok0 w_752 w_7 w_750 (by decide +kernel)) (gk45 hG)) <|
  n_c (s_if_eq (pc := 90) (off := 39) (by decide +kernel) (by decide +kernel)) <|
  n_c (s_aload_n (pc := 93) (k := 1) (by decide +kernel)) <|
  n_c (s_aload_n (pc := 94) (k := 1) (by decide +kernel)) <|
  n_c (s_getI (pc := 95) (ci := 4) (k := 5) (idx := 98) nok4 (by decide) rfl (by decide +kernel) w_243) <|
  n_c (s_iload (pc := 98) (by decide +kernel)) <|
  n_c (s_iconst (pc := 100) (n := 0) (by decide +kernel) (by decide +kernel)) <|
  n_c (s_callS (pc := 101) (csX4_withBit) (by decide) okX4_withBit w_625 w_704 (by decide +kernel)) <|
  n_c (s_putI (pc := 104) (ci := 4) (k := 5) (idx := 98) nok4 (by decide) rfl rfl (by decide +kernel) w_243) <|
  n_c (s_aload_n (pc := 107) (k := 1) (by decide +kernel)) <|
  n_c (s_dup (pc := 108) (by decide +kernel)) <|
  n_c (s_getI (pc := 109) (ci := 4) (k := 8) (idx := 171) nok4 (by decide) rfl (by decide +kernel) w_252) <|
  n_c (s_iconst (pc := 112) (n := 1) (by decide +kernel) (by decide +kernel)) <|
  n_c (s_iadd (pc := 113) (by decide +kernel)) <|
  n_c (s_putI (pc := 114) (ci := 4) (k := 8) (idx := 171) nok4 (by decide) rfl rfl (by decide +kernel) w_252) <|
  n_c (s_iinc (pc := 117) (n := 1) (by decide +kernel) (by decide +kernel)) <|
  n_c (s_aload_n (pc := 120) (k := 0) (by decide +kernel)) <|
  n_c (s_aload_n (pc := 121) (k := 1) (by decide +kernel)) <|
  n_c (s_iconst (pc := 122) (n := 3) (by decide +kernel) (by decide +kernel)) <|
  n_c (s_iload (pc := 123) (by decide +kernel)) <|
  n_c (s_iload_n (pc := 125) (k := 2) (by decide +kernel)) <|
  n_c (s_callVc (s_callV (pc := 126) (csX0_note hG) (by decide) okX0_note nok0 w_707 w_3 w_705 (by decide +kernel)) (gk45 hG)) <|
  n_c (s_iinc (pc := 129) (n := 1) (by decide +kernel) (by decide +kernel)) <|
  n_c (s_goto (pc := 132) (off := -95) (by decide +kernel) (by decide +kernel)) <|
  n_c (s_iload (pc := 135) (by decide +kernel)) <|
  n_c (s_iret (pc := 137) rfl (by decide +kernel)) <|
  n_e
def fX0_searchPlace_37 (N : Nat) (G : nG) : Nat → Nat → Int32 → Int32 → Int32 → Int32 → nM → Option (Int32 × nM)
  | 0, _, _, _, _, _, _ => none
  | n + 1, x1, x2, x3, x4, x5, M =>
    if (M 3 5) ≤ x5 then
      some (x4, M)
    else
      n_chk (Nat.beq (n_kd G x1) 4) <|
      n_chk (n_in G 14 (n_mr G x1 1) x5) <|
      if ¬ (M (n_mr G x1 1) x5.toNatClampNeg) = x3 then
        let v1 : Int32 := (x5 + (1 : Int32))
        fX0_searchPlace_37 N G n x1 x2 x3 x4 v1 M
      else
        n_chk (Nat.beq (n_kd G x1) 4) <|
        (fX4_hasBit (M x1 5) x5 M).bind fun p2 =>
        if p2.1 = 0 then
          let v3 : Int32 := (x5 + (1 : Int32))
          fX0_searchPlace_37 N G n x1 x2 x3 x4 v3 p2.2
        else
          (fX0_asked N G x1 (2 : Int32) x2 x5 x3 p2.2).bind fun p4 =>
          (fX0_comesToPass G x1 p4.1 p4.2).bind fun p5 =>
          if p5.1 = 0 then
            let v6 : Int32 := (x5 + (1 : Int32))
            fX0_searchPlace_37 N G n x1 x2 x3 x4 v6 p5.2
          else
            n_chk (Nat.beq (n_kd G x1) 4) <|
            (fX4_withBit (p5.2 x1 5) x5 (0 : Int32) p5.2).bind fun p7 =>
            n_chk (Nat.beq (n_kd G x1) 4) <|
            let M8 : nM := n_up p7.2 x1 5 p7.1
            n_chk (Nat.beq (n_kd G x1) 4) <|
            n_chk (Nat.beq (n_kd G x1) 4) <|
            let M9 : nM := n_up M8 x1 8 ((M8 x1 8) + (1 : Int32))
            let v10 : Int32 := (x4 + (1 : Int32))
            (fX0_note G x1 (3 : Int32) x5 x2 M9).bind fun p11 =>
            let v12 : Int32 := (x5 + (1 : Int32))
            fX0_searchPlace_37 N G n x1 x2 x3 v10 v12 p11.2
set_option maxRecDepth 200000 in
theorem bX0_searchPlace_37 {l : Launch} {w : nW} (N : Nat) {G : nG} (hG : n_GOK G) : ∀ (n : Nat) (x1 : Nat) (x2 : Int32) (x3 : Int32) (x4 : Int32) (x5 : Int32) (M : nM) (r : Int32 × nM), fX0_searchPlace_37 N G n x1 x2 x3 x4 x5 M = some r → n_At l w 4 mX0_searchPlace 37 [(0, .ref 45), (1, .ref x1), (2, .int x2), (3, .int x3), (4, .int x4), (5, .int x5)] [] (G, M) (dv_i r.1, (G, r.2)) := by
  intro n
  induction n with
  | zero => intro x1 x2 x3 x4 x5 M r h; cases (show (none : Option (Int32 × nM)) = some r from h)
  | succ n ih =>
    intro x1 x2 x3 x4 x5 M r h
    exact n_seg (fin := n_fin dv_i G) (K := [(37, fun lv st M => n_lC 45 lv 0 (n_lR lv 1 (fun x1 => n_lI lv 2 (fun x2 => n_lI lv 3 (fun x3 => n_lI lv 4 (fun x4 => n_lI lv 5 (fun x5 => n_pE st (fX0_searchPlace_37 N G n x1 x2 x3 x4 x5 M))))))))]) 61 (iX0_searchPlace N hG) (n_kc (fun lv st M r h => by
      obtain ⟨e0, h1⟩ := n_lC_x h
      obtain ⟨x1, e1, h2⟩ := n_lR_x h1
      obtain ⟨x2, e2, h3⟩ := n_lI_x h2
      obtain ⟨x3, e3, h4⟩ := n_lI_x h3
      obtain ⟨x4, e4, h5⟩ := n_lI_x h4
      obtain ⟨x5, e5, h6⟩ := n_lI_x h5
      obtain ⟨rfl, h7⟩ := n_pE_x h6
      exact n_sub (n_qc e0 (n_qc e1 (n_qc e2 (n_qc e3 (n_qc e4 (n_qc e5 n_qe)))))) (ih x1 x2 x3 x4 x5 M r h7)) n_ke) (by rfl) h
def fX0_searchPlace (N : Nat) (G : nG) (x1 : Nat) (x2 : Int32) (x3 : Int32) (M : nM) : Option (Int32 × nM) :=
  n_chk (Nat.beq (n_kd G x1) 4) <|
  n_chk (n_in G 14 (n_mr G x1 4) x3) <|
  n_chk (n_in G 14 (n_mr G x1 4) x3) <|
  let M1 : nM := n_up M (n_mr G x1 4) x3.toNatClampNeg ((M (n_mr G x1 4) x3.toNatClampNeg) + (1 : Int32))
  (fX0_note G x1 (2 : Int32) x3 x2 M1).bind fun p2 =>
  n_chk (Nat.beq (n_kd G x1) 4) <|
  (fX4_hasBit (p2.2 x1 7) x3 p2.2).bind fun p3 =>
  if p3.1 = 0 then
    fX0_searchPlace_37 N G N x1 x2 x3 (0 : Int32) (0 : Int32) p3.2
  else
    some ((0 : Int32), p3.2)
set_option maxRecDepth 200000 in
theorem bX0_searchPlace_0 {l : Launch} {w : nW} (N : Nat) {G : nG} (hG : n_GOK G) (x1 : Nat) (x2 : Int32) (x3 : Int32) (M : nM) (r : Int32 × nM) (h : fX0_searchPlace N G x1 x2 x3 M = some r) : n_At l w 4 mX0_searchPlace 0 [(0, .ref 45), (1, .ref x1), (2, .int x2), (3, .int x3)] [] (G, M) (dv_i r.1, (G, r.2)) :=
  n_seg (fin := n_fin dv_i G) (K := [(37, fun lv st M => n_lC 45 lv 0 (n_lR lv 1 (fun x1 => n_lI lv 2 (fun x2 => n_lI lv 3 (fun x3 => n_lI lv 4 (fun x4 => n_lI lv 5 (fun x5 => n_pE st (fX0_searchPlace_37 N G N x1 x2 x3 x4 x5 M))))))))]) 28 (iX0_searchPlace N hG) (n_kc (fun lv st M r h => by
      obtain ⟨e0, h1⟩ := n_lC_x h
      obtain ⟨x1, e1, h2⟩ := n_lR_x h1
      obtain ⟨x2, e2, h3⟩ := n_lI_x h2
      obtain ⟨x3, e3, h4⟩ := n_lI_x h3
      obtain ⟨x4, e4, h5⟩ := n_lI_x h4
      obtain ⟨x5, e5, h6⟩ := n_lI_x h5
      obtain ⟨rfl, h7⟩ := n_pE_x h6
      exact n_sub (n_qc e0 (n_qc e1 (n_qc e2 (n_qc e3 (n_qc e4 (n_qc e5 n_qe)))))) (bX0_searchPlace_37 N hG N x1 x2 x3 x4 x5 M r h7)) n_ke) (by rfl) h
theorem eX0_searchPlace {l : Launch} {w : nW} (N : Nat) {G : nG} (hG : n_GOK G) (z1 : Nat) (z2 : Int32) (z3 : Int32) (M : nM) (r : Int32 × nM) (h : fX0_searchPlace N G z1 z2 z3 M = some r) : n_Met l w 4 mX0_searchPlace [.ref 45, .ref z1, .int z2, .int z3] (G, M) (dv_i r.1, (G, r.2)) :=
  n_entry (by decide +kernel) rfl (Nat.le_of_ble_eq_true rfl) (n_sub (lv := [(0, .ref 45), (1, .ref z1), (2, .int z2), (3, .int z3)]) (n_qc rfl (n_qc rfl (n_qc rfl (n_qc rfl n_qe)))) (bX0_searchPlace_0 N hG z1 z2 z3 M r h))
abbrev hX0_searchPlace (N : Nat) (G : nG) : nF := fun T as M k => n_pC 45 as (fun as => n_pR as (fun z1 as => n_pI as (fun z2 as => n_pI as (fun z3 as => n_pE as ((fX0_searchPlace N G z1 z2 z3 M).bind fun p => k (dv_i p.1) p.2)))))
theorem csX0_searchPlace {l : Launch} {w : nW} (N : Nat) {G : nG} (hG : n_GOK G) : n_CS l w 4 mX0_searchPlace G (hX0_searchPlace N G) := fun T as M k r h => by
  obtain ⟨t0, rfl, h1⟩ := n_pC_x h
  obtain ⟨z1, t1, rfl, h2⟩ := n_pR_x h1
  obtain ⟨z2, t2, rfl, h3⟩ := n_pI_x h2
  obtain ⟨z3, t3, rfl, h4⟩ := n_pI_x h3
  obtain ⟨rfl, hE⟩ := n_pE_x h4
  obtain ⟨p, hp, hk⟩ := Option.bind_eq_some_iff.mp hE
  exact ⟨_, _, eX0_searchPlace N hG z1 z2 z3 M p hp, hk⟩
/-! ===== SleightHouse.search(II)I ===== -/
def mX11_search : nY := (RX11, yX11_search, cX11_search, 3, some .int)
theorem okX11_search : n_MOK mX11_search 2 := ⟨w_763, w_137, ⟨by decide +kernel, by decide +kernel, by decide +kernel⟩, by decide⟩
abbrev aX11_search (N : Nat) (G : nG) : List (Nat × nO (Int32 × nM)) := [(0, o_aload 0 1), (1, o_gRc 1 45 4), (4, o_aload 0 5), (5, o_gRc 1 2 8), (8, o_gRc 2 9 11), (11, o_iload 1 12), (12, o_iload 2 13), (13, o_callVc 45 3 (hX0_canSearch G) 16), (16, oi_ne 21 19), (19, o_push (.int (-1 : Int32)) 20), (20, o_iret), (21, o_aload 0 22), (22, o_gRc 1 48 25), (25, o_aload 0 26), (26, o_gRc 1 2 29), (29, o_gRc 2 9 32), (32, o_callVc 48 1 (hX5_keep G) 35), (35, o_aload 0 36), (36, o_gRc 1 45 39), (39, o_aload 0 40), (40, o_gRc 1 2 43), (43, o_gRc 2 9 46), (46, o_iload 1 47), (47, o_iload 2 48), (48, o_callVc 45 3 (hX0_searchPlace N G) 51), (51, o_iret)]
set_option maxRecDepth 200000 in
theorem iX11_search {l : Launch} {w : nW} (N : Nat) {G : nG} (hG : n_GOK G) : n_AllS l w 5 mX11_search G (n_fin dv_i G) (aX11_search N G) :=
  n_c (s_aload_n (pc := 0) (k := 0) (by decide +kernel)) <|
  n_c (s_gRc (s_getR (pc := 1) (ci := 11) (k := 1) (idx := 21) nok11 (by decide) rfl (by decide +kernel) w_573) (gk1 hG) (gm1_1 hG)) <|
  n_c (s_aload_n (pc := 4) (k := 0) (by decide +kernel)) <|
  n_c (s_gRc (s_getR (pc := 5) (ci := 11) (k := 0) (idx := 10) nok11 (by decide) rfl (by decide +kernel) w_572) (gk1 hG) (gm1_0 hG)) <|
  n_c (s_gRc (s_getR (pc := 8) (ci := 1) (k := 1) (idx := 77) nok1 (by decide) rfl (by decide +kernel) w_406) (gk2 hG) (gm2_1 hG)) <|
  n_c (s_iload_n (pc := 11) (k := 1) (by decide +kernel)) <|
  n_c (s_iload_n (pc := 12) (k := 2) (by decide +kernel)) <|
  n_c (s_callVc (s_callV (pc := 13) (csX0_canSearch hG) (by decide) okX0_canSearch nok0 w_765 w_766 w_764 (by decide +kernel)) (gk45 hG)) <|
  n_c (s_if_ne (pc := 16) (off := 5) (by decide +kernel) (by decide +kernel)) <|
  n_c (s_iconst (pc := 19) (n := -1) (by decide +kernel) (by decide +kernel)) <|
  n_c (s_iret (pc := 20) rfl (by decide +kernel)) <|
  n_c (s_aload_n (pc := 21) (k := 0) (by decide +kernel)) <|
  n_c (s_gRc (s_getR (pc := 22) (ci := 11) (k := 2) (idx := 28) nok11 (by decide) rfl (by decide +kernel) w_574) (gk1 hG) (gm1_2 hG)) <|
  n_c (s_aload_n (pc := 25) (k := 0) (by decide +kernel)) <|
  n_c (s_gRc (s_getR (pc := 26) (ci := 11) (k := 0) (idx := 10) nok11 (by decide) rfl (by decide +kernel) w_572) (gk1 hG) (gm1_0 hG)) <|
  n_c (s_gRc (s_getR (pc := 29) (ci := 1) (k := 1) (idx := 77) nok1 (by decide) rfl (by decide +kernel) w_406) (gk2 hG) (gm2_1 hG)) <|
  n_c (s_callVc (s_callV (pc := 32) (csX5_keep hG) (by decide) okX5_keep nok5 w_689 w_690 w_688 (by decide +kernel)) (gk48 hG)) <|
  n_c (s_aload_n (pc := 35) (k := 0) (by decide +kernel)) <|
  n_c (s_gRc (s_getR (pc := 36) (ci := 11) (k := 1) (idx := 21) nok11 (by decide) rfl (by decide +kernel) w_573) (gk1 hG) (gm1_1 hG)) <|
  n_c (s_aload_n (pc := 39) (k := 0) (by decide +kernel)) <|
  n_c (s_gRc (s_getR (pc := 40) (ci := 11) (k := 0) (idx := 10) nok11 (by decide) rfl (by decide +kernel) w_572) (gk1 hG) (gm1_0 hG)) <|
  n_c (s_gRc (s_getR (pc := 43) (ci := 1) (k := 1) (idx := 77) nok1 (by decide) rfl (by decide +kernel) w_406) (gk2 hG) (gm2_1 hG)) <|
  n_c (s_iload_n (pc := 46) (k := 1) (by decide +kernel)) <|
  n_c (s_iload_n (pc := 47) (k := 2) (by decide +kernel)) <|
  n_c (s_callVc (s_callV (pc := 48) (csX0_searchPlace N hG) (by decide) okX0_searchPlace nok0 w_769 w_770 w_768 (by decide +kernel)) (gk45 hG)) <|
  n_c (s_iret (pc := 51) rfl (by decide +kernel)) <|
  n_e
def fX11_search (N : Nat) (G : nG) (x1 : Int32) (x2 : Int32) (M : nM) : Option (Int32 × nM) :=
  (fX0_canSearch G 9 x1 x2 M).bind fun p1 =>
  if ¬ p1.1 = 0 then
    (fX5_keep G p1.2).bind fun p2 =>
    (fX0_searchPlace N G 9 x1 x2 p2.2).bind fun p3 =>
    some (p3.1, p3.2)
  else
    some ((-1 : Int32), p1.2)
set_option maxRecDepth 200000 in
theorem bX11_search_0 {l : Launch} {w : nW} (N : Nat) {G : nG} (hG : n_GOK G) (x1 : Int32) (x2 : Int32) (M : nM) (r : Int32 × nM) (h : fX11_search N G x1 x2 M = some r) : n_At l w 5 mX11_search 0 [(0, .ref 1), (1, .int x1), (2, .int x2)] [] (G, M) (dv_i r.1, (G, r.2)) :=
  n_seg (fin := n_fin dv_i G) (K := []) 29 (iX11_search N hG) n_ke (by rfl) h
theorem eX11_search {l : Launch} {w : nW} (N : Nat) {G : nG} (hG : n_GOK G) (z1 : Int32) (z2 : Int32) (M : nM) (r : Int32 × nM) (h : fX11_search N G z1 z2 M = some r) : n_Met l w 5 mX11_search [.ref 1, .int z1, .int z2] (G, M) (dv_i r.1, (G, r.2)) :=
  n_entry (by decide +kernel) rfl (Nat.le_of_ble_eq_true rfl) (n_sub (lv := [(0, .ref 1), (1, .int z1), (2, .int z2)]) (n_qc rfl (n_qc rfl (n_qc rfl n_qe))) (bX11_search_0 N hG z1 z2 M r h))
abbrev hX11_search (N : Nat) (G : nG) : nF := fun T as M k => n_pC 1 as (fun as => n_pI as (fun z1 as => n_pI as (fun z2 as => n_pE as ((fX11_search N G z1 z2 M).bind fun p => k (dv_i p.1) p.2))))
theorem csX11_search {l : Launch} {w : nW} (N : Nat) {G : nG} (hG : n_GOK G) : n_CS l w 5 mX11_search G (hX11_search N G) := fun T as M k r h => by
  obtain ⟨t0, rfl, h1⟩ := n_pC_x h
  obtain ⟨z1, t1, rfl, h2⟩ := n_pI_x h1
  obtain ⟨z2, t2, rfl, h3⟩ := n_pI_x h2
  obtain ⟨rfl, hE⟩ := n_pE_x h3
  obtain ⟨p, hp, hk⟩ := Option.bind_eq_some_iff.mp hE
  exact ⟨_, _, eX11_search N hG z1 z2 M p hp, hk⟩
/-! ===== SleightHouseModel.canSearch(II)Z ===== -/
def mX12_canSearch : nY := (RX12, yX12_canSearch, cX12_canSearch, 3, some .boolean)
theorem okX12_canSearch : n_MOK mX12_canSearch 2 := ⟨w_1918, w_151, ⟨by decide +kernel, by decide +kernel, by decide +kernel⟩, by decide⟩
abbrev aX12_canSearch : List (Nat × nO (Int32 × nM)) := [(0, o_aload 0 1), (1, o_iload 1 2), (2, o_callVc 107 1 (hX12_isPerson) 5), (5, oi_eq 32 8), (8, o_aload 0 9), (9, o_iload 2 10), (10, o_callVc 107 1 (hX12_isPlace) 13), (13, oi_eq 32 16), (16, o_aload 0 17), (17, o_gRc 107 108 20), (20, o_push (.int (76 : Int32)) 22), (22, o_iload 1 23), (23, o_iadd 24), (24, o_aldc 108 100 25), (25, oi_ne 32 28), (28, o_push (.int (1 : Int32)) 29), (29, o_goto 33), (32, o_push (.int (0 : Int32)) 33), (33, o_zret)]
set_option maxRecDepth 200000 in
theorem iX12_canSearch {l : Launch} {w : nW} {G : nG} (hG : n_GOK G) : n_AllS l w 1 mX12_canSearch G (n_fin dv_i G) (aX12_canSearch) :=
  n_c (s_aload_n (pc := 0) (k := 0) (by decide +kernel)) <|
  n_c (s_iload_n (pc := 1) (k := 1) (by decide +kernel)) <|
  n_c (s_callVc (s_callV (pc := 2) (csX12_isPerson hG) (by decide) okX12_isPerson nok12 w_1683 w_50 w_1681 (by decide +kernel)) (gk107 hG)) <|
  n_c (s_if_eq (pc := 5) (off := 27) (by decide +kernel) (by decide +kernel)) <|
  n_c (s_aload_n (pc := 8) (k := 0) (by decide +kernel)) <|
  n_c (s_iload_n (pc := 9) (k := 2) (by decide +kernel)) <|
  n_c (s_callVc (s_callV (pc := 10) (csX12_isPlace) (by decide) okX12_isPlace nok12 w_1663 w_47 w_1661 (by decide +kernel)) (gk107 hG)) <|
  n_c (s_if_eq (pc := 13) (off := 19) (by decide +kernel) (by decide +kernel)) <|
  n_c (s_aload_n (pc := 16) (k := 0) (by decide +kernel)) <|
  n_c (s_gRc (s_getR (pc := 17) (ci := 12) (k := 1) (idx := 7) nok12 (by decide) rfl (by decide +kernel) w_1408) (gk107 hG) (gm107_1 hG)) <|
  n_c (s_bipush (pc := 20) (n := 76) (by decide +kernel) (by decide +kernel)) <|
  n_c (s_iload_n (pc := 22) (k := 1) (by decide +kernel)) <|
  n_c (s_iadd (pc := 23) (by decide +kernel)) <|
  n_c (s_aldc (s_iaload (pc := 24) (by decide +kernel)) (gk108 hG) (gl108 hG)) <|
  n_c (s_if_ne (pc := 25) (off := 7) (by decide +kernel) (by decide +kernel)) <|
  n_c (s_iconst (pc := 28) (n := 1) (by decide +kernel) (by decide +kernel)) <|
  n_c (s_goto (pc := 29) (off := 4) (by decide +kernel) (by decide +kernel)) <|
  n_c (s_iconst (pc := 32) (n := 0) (by decide +kernel) (by decide +kernel)) <|
  n_c (s_zret (pc := 33) rfl (by decide +kernel)) <|
  n_e
def fX12_canSearch (x1 : Int32) (x2 : Int32) (M : nM) : Option (Int32 × nM) :=
  (fX12_isPerson x1 M).bind fun p1 =>
  if p1.1 = 0 then
    some ((0 : Int32), p1.2)
  else
    (fX12_isPlace x2 p1.2).bind fun p2 =>
    if p2.1 = 0 then
      some ((0 : Int32), p2.2)
    else
      n_chk (n_ib 100 ((76 : Int32) + x1)) <|
      if ¬ (p2.2 108 ((76 : Int32) + x1).toNatClampNeg) = 0 then
        some ((0 : Int32), p2.2)
      else
        some ((1 : Int32), p2.2)
set_option maxRecDepth 200000 in
theorem bX12_canSearch_0 {l : Launch} {w : nW} {G : nG} (hG : n_GOK G) (x1 : Int32) (x2 : Int32) (M : nM) (r : Int32 × nM) (h : fX12_canSearch x1 x2 M = some r) : n_At l w 1 mX12_canSearch 0 [(0, .ref 107), (1, .int x1), (2, .int x2)] [] (G, M) (dv_i r.1, (G, r.2)) :=
  n_seg (fin := n_fin dv_i G) (K := []) 27 (iX12_canSearch hG) n_ke (by rfl) h
theorem eX12_canSearch {l : Launch} {w : nW} {G : nG} (hG : n_GOK G) (z1 : Int32) (z2 : Int32) (M : nM) (r : Int32 × nM) (h : fX12_canSearch z1 z2 M = some r) : n_Met l w 1 mX12_canSearch [.ref 107, .int z1, .int z2] (G, M) (dv_i r.1, (G, r.2)) :=
  n_entry (by decide +kernel) rfl (Nat.le_of_ble_eq_true rfl) (n_sub (lv := [(0, .ref 107), (1, .int z1), (2, .int z2)]) (n_qc rfl (n_qc rfl (n_qc rfl n_qe))) (bX12_canSearch_0 hG z1 z2 M r h))
abbrev hX12_canSearch : nF := fun T as M k => n_pC 107 as (fun as => n_pI as (fun z1 as => n_pI as (fun z2 as => n_pE as ((fX12_canSearch z1 z2 M).bind fun p => k (dv_i p.1) p.2))))
theorem csX12_canSearch {l : Launch} {w : nW} {G : nG} (hG : n_GOK G) : n_CS l w 1 mX12_canSearch G (hX12_canSearch) := fun T as M k r h => by
  obtain ⟨t0, rfl, h1⟩ := n_pC_x h
  obtain ⟨z1, t1, rfl, h2⟩ := n_pI_x h1
  obtain ⟨z2, t2, rfl, h3⟩ := n_pI_x h2
  obtain ⟨rfl, hE⟩ := n_pE_x h3
  obtain ⟨p, hp, hk⟩ := Option.bind_eq_some_iff.mp hE
  exact ⟨_, _, eX12_canSearch hG z1 z2 M p hp, hk⟩
/-! ===== SleightHouseModel.findsOf(III)I ===== -/
def mX12_findsOf : nY := (RX12, yX12_findsOf, cX12_findsOf, 4, some .int)
theorem okX12_findsOf : n_MOK mX12_findsOf 3 := ⟨w_1926, w_151, ⟨by decide +kernel, by decide +kernel, by decide +kernel⟩, by decide⟩
abbrev aX12_findsOf (N : Nat) : List (Nat × nO (Int32 × nM)) := [(0, o_aload 0 1), (1, o_iload 1 2), (2, o_iload 2 3), (3, o_iload 3 4), (4, o_push (.int (2 : Int32)) 5), (5, o_push (.int (1000 : Int32)) 8), (8, o_callVc 107 5 (hX12_lawTells N) 11), (11, o_iret)]
set_option maxRecDepth 200000 in
theorem iX12_findsOf {l : Launch} {w : nW} (N : Nat) {G : nG} (hG : n_GOK G) : n_AllS l w 4 mX12_findsOf G (n_fin dv_i G) (aX12_findsOf N) :=
  n_c (s_aload_n (pc := 0) (k := 0) (by decide +kernel)) <|
  n_c (s_iload_n (pc := 1) (k := 1) (by decide +kernel)) <|
  n_c (s_iload_n (pc := 2) (k := 2) (by decide +kernel)) <|
  n_c (s_iload_n (pc := 3) (k := 3) (by decide +kernel)) <|
  n_c (s_iconst (pc := 4) (n := 2) (by decide +kernel) (by decide +kernel)) <|
  n_c (s_sipush (pc := 5) (n := 1000) (by decide +kernel) (by decide +kernel)) <|
  n_c (s_callVc (s_callV (pc := 8) (csX12_lawTells N hG) (by decide) okX12_lawTells nok12 w_1875 w_93 w_1873 (by decide +kernel)) (gk107 hG)) <|
  n_c (s_iret (pc := 11) rfl (by decide +kernel)) <|
  n_e
def fX12_findsOf (N : Nat) (x1 : Int32) (x2 : Int32) (x3 : Int32) (M : nM) : Option (Int32 × nM) :=
  (fX12_lawTells N x1 x2 x3 (2 : Int32) (1000 : Int32) M).bind fun p1 =>
  some (p1.1, p1.2)
set_option maxRecDepth 200000 in
theorem bX12_findsOf_0 {l : Launch} {w : nW} (N : Nat) {G : nG} (hG : n_GOK G) (x1 : Int32) (x2 : Int32) (x3 : Int32) (M : nM) (r : Int32 × nM) (h : fX12_findsOf N x1 x2 x3 M = some r) : n_At l w 4 mX12_findsOf 0 [(0, .ref 107), (1, .int x1), (2, .int x2), (3, .int x3)] [] (G, M) (dv_i r.1, (G, r.2)) :=
  n_seg (fin := n_fin dv_i G) (K := []) 11 (iX12_findsOf N hG) n_ke (by rfl) h
theorem eX12_findsOf {l : Launch} {w : nW} (N : Nat) {G : nG} (hG : n_GOK G) (z1 : Int32) (z2 : Int32) (z3 : Int32) (M : nM) (r : Int32 × nM) (h : fX12_findsOf N z1 z2 z3 M = some r) : n_Met l w 4 mX12_findsOf [.ref 107, .int z1, .int z2, .int z3] (G, M) (dv_i r.1, (G, r.2)) :=
  n_entry (by decide +kernel) rfl (Nat.le_of_ble_eq_true rfl) (n_sub (lv := [(0, .ref 107), (1, .int z1), (2, .int z2), (3, .int z3)]) (n_qc rfl (n_qc rfl (n_qc rfl (n_qc rfl n_qe)))) (bX12_findsOf_0 N hG z1 z2 z3 M r h))
abbrev hX12_findsOf (N : Nat) : nF := fun T as M k => n_pC 107 as (fun as => n_pI as (fun z1 as => n_pI as (fun z2 as => n_pI as (fun z3 as => n_pE as ((fX12_findsOf N z1 z2 z3 M).bind fun p => k (dv_i p.1) p.2)))))
theorem csX12_findsOf {l : Launch} {w : nW} (N : Nat) {G : nG} (hG : n_GOK G) : n_CS l w 4 mX12_findsOf G (hX12_findsOf N) := fun T as M k r h => by
  obtain ⟨t0, rfl, h1⟩ := n_pC_x h
  obtain ⟨z1, t1, rfl, h2⟩ := n_pI_x h1
  obtain ⟨z2, t2, rfl, h3⟩ := n_pI_x h2
  obtain ⟨z3, t3, rfl, h4⟩ := n_pI_x h3
  obtain ⟨rfl, hE⟩ := n_pE_x h4
  obtain ⟨p, hp, hk⟩ := Option.bind_eq_some_iff.mp hE
  exact ⟨_, _, eX12_findsOf N hG z1 z2 z3 M p hp, hk⟩
/-! ===== SleightHouseModel.searches(II)I ===== -/
def mX12_searches : nY := (RX12, yX12_searches, cX12_searches, 5, some .int)
theorem okX12_searches : n_MOK mX12_searches 2 := ⟨w_1922, w_151, ⟨by decide +kernel, by decide +kernel, by decide +kernel⟩, by decide⟩
abbrev aX12_searches (N : Nat) : List (Nat × nO (Int32 × nM)) := [(0, o_aload 0 1), (1, o_gRc 107 108 4), (4, o_push (.int (16 : Int32)) 6), (6, o_iload 2 7), (7, o_iadd 8), (8, o_aload 0 9), (9, o_gRc 107 108 12), (12, o_push (.int (16 : Int32)) 14), (14, o_iload 2 15), (15, o_iadd 16), (16, o_aldc 108 100 17), (17, o_push (.int (1 : Int32)) 18), (18, o_iadd 19), (19, o_iastc 108 100 20), (20, o_aload 0 21), (21, o_push (.int (2 : Int32)) 22), (22, o_iload 2 23), (23, o_iload 1 24), (24, o_callVc 107 3 (hX12_notes) 27), (27, o_push (.int (0 : Int32)) 28), (28, o_istore 5 3 29), (29, o_push (.int (0 : Int32)) 30), (30, o_istore 5 4 32), (32, o_iload 4 34), (34, o_aload 0 35), (35, o_gIc 107 6 38), (38, oc_ge 140 41), (41, o_aload 0 42), (42, o_gRc 107 108 45), (45, o_push (.int (4 : Int32)) 46), (46, o_iload 2 47), (47, o_iadd 48), (48, o_aldc 108 100 49), (49, oi_ne 140 52), (52, o_aload 0 53), (53, o_gRc 107 108 56), (56, o_push (.int (28 : Int32)) 58), (58, o_iload 4 60), (60, o_iadd 61), (61, o_aldc 108 100 62), (62, o_iload 2 63), (63, oc_ne 134 66), (66, o_aload 0 67), (67, o_gRc 107 108 70), (70, o_push (.int (60 : Int32)) 72), (72, o_iload 4 74), (74, o_iadd 75), (75, o_aldc 108 100 76), (76, oi_eq 134 79), (79, o_aload 0 80), (80, o_aload 0 81), (81, o_iload 1 82), (82, o_iload 4 84), (84, o_iload 2 85), (85, o_callVc 107 3 (hX12_findsOf N) 88), (88, o_callVc 107 1 (hX12_comes) 91), (91, oi_ne 97 94), (94, o_goto 134), (97, o_aload 0 98), (98, o_gRc 107 108 101), (101, o_push (.int (60 : Int32)) 103), (103, o_iload 4 105), (105, o_iadd 106), (106, o_push (.int (0 : Int32)) 107), (107, o_iastc 108 100 108), (108, o_aload 0 109), (109, o_gRc 107 108 112), (112, o_push (.int (3 : Int32)) 113), (113, o_aload 0 114), (114, o_gRc 107 108 117), (117, o_push (.int (3 : Int32)) 118), (118, o_aldc 108 100 119), (119, o_push (.int (1 : Int32)) 120), (120, o_iadd 121), (121, o_iastc 108 100 122), (122, o_aload 0 123), (123, o_push (.int (3 : Int32)) 124), (124, o_iload 4 126), (126, o_iload 1 127), (127, o_callVc 107 3 (hX12_notes) 130), (130, o_iload 3 131), (131, o_push (.int (1 : Int32)) 132), (132, o_iadd 133), (133, o_istore 5 3 134), (134, o_inc 5 4 (1 : Int32) 137), (137, o_goto 32), (140, o_iload 3 141), (141, o_iret)]
set_option maxRecDepth 200000 in
theorem iX12_searches {l : Launch} {w : nW} (N : Nat) {G : nG} (hG : n_GOK G) : n_AllS l w 5 mX12_searches G (n_fin dv_i G) (aX12_searches N) :=
  n_c (s_aload_n (pc := 0) (k := 0) (by decide +kernel)) <|
  n_c (s_gRc (s_getR (pc := 1) (ci := 12) (k := 1) (idx := 7) nok12 (by decide) rfl (by decide +kernel) w_1408) (gk107 hG) (gm107_1 hG)) <|
  n_c (s_bipush (pc := 4) (n := 16) (by decide +kernel) (by decide +kernel)) <|
  n_c (s_iload_n (pc := 6) (k := 2) (by decide +kernel)) <|
  n_c (s_iadd (pc := 7) (by decide +kernel)) <|
  n_c (s_aload_n (pc := 8) (k := 0) (by decide +kernel)) <|
  n_c (s_gRc (s_getR (pc := 9) (ci := 12) (k := 1) (idx := 7) nok12 (by decide) rfl (by decide +kernel) w_1408) (gk107 hG) (gm107_1 hG)) <|
  n_c (s_bipush (pc := 12) (n := 16) (by decide +kernel) (by decide +kernel)) <|
  n_c (s_iload_n (pc := 14) (k := 2) (by decide +kernel)) <|
  n_c (s_iadd (pc := 15) (by decide +kernel)) <|
  n_c (s_aldc (s_iaload (pc := 16) (by decide +kernel)) (gk108 hG) (gl108 hG)) <|
  n_c (s_iconst (pc := 17) (n := 1) (by decide +kernel) (by decide +kernel)) <|
  n_c (s_iadd (pc := 18) (by decide +kernel)) <|
  n_c (s_iastc (s_iastore (pc := 19) (by decide +kernel)) (gk108 hG) (gl108 hG)) <|
  n_c (s_aload_n (pc := 20) (k := 0) (by decide +kernel)) <|
  n_c (s_iconst (pc := 21) (n := 2) (by decide +kernel) (by decide +kernel)) <|
  n_c (s_iload_n (pc := 22) (k := 2) (by decide +kernel)) <|
  n_c (s_iload_n (pc := 23) (k := 1) (by decide +kernel)) <|
  n_c (s_callVc (s_callV (pc := 24) (csX12_notes hG) (by decide) okX12_notes nok12 w_1867 w_91 w_1865 (by decide +kernel)) (gk107 hG)) <|
  n_c (s_iconst (pc := 27) (n := 0) (by decide +kernel) (by decide +kernel)) <|
  n_c (s_istore_n (pc := 28) (k := 3) (by decide +kernel)) <|
  n_c (s_iconst (pc := 29) (n := 0) (by decide +kernel) (by decide +kernel)) <|
  n_c (s_istore (pc := 30) (by decide +kernel)) <|
  n_c (s_iload (pc := 32) (by decide +kernel)) <|
  n_c (s_aload_n (pc := 34) (k := 0) (by decide +kernel)) <|
  n_c (s_gIc (s_getI (pc := 35) (ci := 12) (k := 6) (idx := 158) nok12 (by decide) rfl (by decide +kernel) w_1413) (gk107 hG)) <|
  n_c (s_icmp_ge (pc := 38) (off := 102) (by decide +kernel) (by decide +kernel)) <|
  n_c (s_aload_n (pc := 41) (k := 0) (by decide +kernel)) <|
  n_c (s_gRc (s_getR (pc := 42) (ci := 12) (k := 1) (idx := 7) nok12 (by decide) rfl (by decide +kernel) w_1408) (gk107 hG) (gm107_1 hG)) <|
  n_c (s_iconst (pc := 45) (n := 4) (by decide +kernel) (by decide +kernel)) <|
  n_c (s_iload_n (pc := 46) (k := 2) (by decide +kernel)) <|
  n_c (s_iadd (pc := 47) (by decide +kernel)) <|
  n_c (s_aldc (s_iaload (pc := 48) (by decide +kernel)) (gk108 hG) (gl108 hG)) <|
  n_c (s_if_ne (pc := 49) (off := 91) (by decide +kernel) (by decide +kernel)) <|
  n_c (s_aload_n (pc := 52) (k := 0) (by decide +kernel)) <|
  n_c (s_gRc (s_getR (pc := 53) (ci := 12) (k := 1) (idx := 7) nok12 (by decide) rfl (by decide +kernel) w_1408) (gk107 hG) (gm107_1 hG)) <|
  n_c (s_bipush (pc := 56) (n := 28) (by decide +kernel) (by decide +kernel)) <|
  n_c (s_iload (pc := 58) (by decide +kernel)) <|
  n_c (s_iadd (pc := 60) (by decide +kernel)) <|
  n_c (s_aldc (s_iaload (pc := 61) (by decide +kernel)) (gk108 hG) (gl108 hG)) <|
  n_c (s_iload_n (pc := 62) (k := 2) (by decide +kernel)) <|
  n_c (s_icmp_ne (pc := 63) (off := 71) (by decide +kernel) (by decide +kernel)) <|
  n_c (s_aload_n (pc := 66) (k := 0) (by decide +kernel)) <|
  n_c (s_gRc (s_getR (pc := 67) (ci := 12) (k := 1) (idx := 7) nok12 (by decide) rfl (by decide +kernel) w_1408) (gk107 hG) (gm107_1 hG)) <|
  n_c (s_bipush (pc := 70) (n := 60) (by decide +kernel) (by decide +kernel)) <|
  n_c (s_iload (pc := 72) (by decide +kernel)) <|
  n_c (s_iadd (pc := 74) (by decide +kernel)) <|
  n_c (s_aldc (s_iaload (pc := 75) (by decide +kernel)) (gk108 hG) (gl108 hG)) <|
  n_c (s_if_eq (pc := 76) (off := 58) (by decide +kernel) (by decide +kernel)) <|
  n_c (s_aload_n (pc := 79) (k := 0) (by decide +kernel)) <|
  n_c (s_aload_n (pc := 80) (k := 0) (by decide +kernel)) <|
  n_c (s_iload_n (pc := 81) (k := 1) (by decide +kernel)) <|
  n_c (s_iload (pc := 82) (by decide +kernel)) <|
  n_c (s_iload_n (pc := 84) (k := 2) (by decide +kernel)) <|
  n_c (s_callVc (s_callV (pc := 85) (csX12_findsOf N hG) (by decide) okX12_findsOf nok12 w_1925 w_104 w_1923 (by decide +kernel)) (gk107 hG)) <|
  n_c (s_callVc (s_callV (pc := 88) (csX12_comes hG) (by decide) okX12_comes nok12 w_1895 w_98 w_1893 (by decide +kernel)) (gk107 hG)) <|
  n_c (s_if_ne (pc := 91) (off := 6) (by decide +kernel) (by decide +kernel)) <|
  n_c (s_goto (pc := 94) (off := 40) (by decide +kernel) (by decide +kernel)) <|
  n_c (s_aload_n (pc := 97) (k := 0) (by decide +kernel)) <|
  n_c (s_gRc (s_getR (pc := 98) (ci := 12) (k := 1) (idx := 7) nok12 (by decide) rfl (by decide +kernel) w_1408) (gk107 hG) (gm107_1 hG)) <|
  n_c (s_bipush (pc := 101) (n := 60) (by decide +kernel) (by decide +kernel)) <|
  n_c (s_iload (pc := 103) (by decide +kernel)) <|
  n_c (s_iadd (pc := 105) (by decide +kernel)) <|
  n_c (s_iconst (pc := 106) (n := 0) (by decide +kernel) (by decide +kernel)) <|
  n_c (s_iastc (s_iastore (pc := 107) (by decide +kernel)) (gk108 hG) (gl108 hG)) <|
  n_c (s_aload_n (pc := 108) (k := 0) (by decide +kernel)) <|
  n_c (s_gRc (s_getR (pc := 109) (ci := 12) (k := 1) (idx := 7) nok12 (by decide) rfl (by decide +kernel) w_1408) (gk107 hG) (gm107_1 hG)) <|
  n_c (s_iconst (pc := 112) (n := 3) (by decide +kernel) (by decide +kernel)) <|
  n_c (s_aload_n (pc := 113) (k := 0) (by decide +kernel)) <|
  n_c (s_gRc (s_getR (pc := 114) (ci := 12) (k := 1) (idx := 7) nok12 (by decide) rfl (by decide +kernel) w_1408) (gk107 hG) (gm107_1 hG)) <|
  n_c (s_iconst (pc := 117) (n := 3) (by decide +kernel) (by decide +kernel)) <|
  n_c (s_aldc (s_iaload (pc := 118) (by decide +kernel)) (gk108 hG) (gl108 hG)) <|
  n_c (s_iconst (pc := 119) (n := 1) (by decide +kernel) (by decide +kernel)) <|
  n_c (s_iadd (pc := 120) (by decide +kernel)) <|
  n_c (s_iastc (s_iastore (pc := 121) (by decide +kernel)) (gk108 hG) (gl108 hG)) <|
  n_c (s_aload_n (pc := 122) (k := 0) (by decide +kernel)) <|
  n_c (s_iconst (pc := 123) (n := 3) (by decide +kernel) (by decide +kernel)) <|
  n_c (s_iload (pc := 124) (by decide +kernel)) <|
  n_c (s_iload_n (pc := 126) (k := 1) (by decide +kernel)) <|
  n_c (s_callVc (s_callV (pc := 127) (csX12_notes hG) (by decide) okX12_notes nok12 w_1867 w_91 w_1865 (by decide +kernel)) (gk107 hG)) <|
  n_c (s_iload_n (pc := 130) (k := 3) (by decide +kernel)) <|
  n_c (s_iconst (pc := 131) (n := 1) (by decide +kernel) (by decide +kernel)) <|
  n_c (s_iadd (pc := 132) (by decide +kernel)) <|
  n_c (s_istore_n (pc := 133) (k := 3) (by decide +kernel)) <|
  n_c (s_iinc (pc := 134) (n := 1) (by decide +kernel) (by decide +kernel)) <|
  n_c (s_goto (pc := 137) (off := -105) (by decide +kernel) (by decide +kernel)) <|
  n_c (s_iload_n (pc := 140) (k := 3) (by decide +kernel)) <|
  n_c (s_iret (pc := 141) rfl (by decide +kernel)) <|
  n_e
def fX12_searches_32 (N : Nat) : Nat → Int32 → Int32 → Int32 → Int32 → nM → Option (Int32 × nM)
  | 0, _, _, _, _, _ => none
  | n + 1, x1, x2, x3, x4, M =>
    if (M 107 6) ≤ x4 then
      some (x3, M)
    else
      n_chk (n_ib 100 ((4 : Int32) + x2)) <|
      if ¬ (M 108 ((4 : Int32) + x2).toNatClampNeg) = 0 then
        some (x3, M)
      else
        n_chk (n_ib 100 ((28 : Int32) + x4)) <|
        if ¬ (M 108 ((28 : Int32) + x4).toNatClampNeg) = x2 then
          let v1 : Int32 := (x4 + (1 : Int32))
          fX12_searches_32 N n x1 x2 x3 v1 M
        else
          n_chk (n_ib 100 ((60 : Int32) + x4)) <|
          if (M 108 ((60 : Int32) + x4).toNatClampNeg) = 0 then
            let v2 : Int32 := (x4 + (1 : Int32))
            fX12_searches_32 N n x1 x2 x3 v2 M
          else
            (fX12_findsOf N x1 x4 x2 M).bind fun p3 =>
            (fX12_comes p3.1 p3.2).bind fun p4 =>
            if ¬ p4.1 = 0 then
              n_chk (n_ib 100 ((60 : Int32) + x4)) <|
              let M5 : nM := n_up p4.2 108 ((60 : Int32) + x4).toNatClampNeg (0 : Int32)
              n_chk (n_ib 100 (3 : Int32)) <|
              n_chk (n_ib 100 (3 : Int32)) <|
              let M6 : nM := n_up M5 108 (3 : Int32).toNatClampNeg ((M5 108 (3 : Int32).toNatClampNeg) + (1 : Int32))
              (fX12_notes (3 : Int32) x4 x1 M6).bind fun p7 =>
              let v8 : Int32 := (x3 + (1 : Int32))
              let v9 : Int32 := (x4 + (1 : Int32))
              fX12_searches_32 N n x1 x2 v8 v9 p7.2
            else
              let v10 : Int32 := (x4 + (1 : Int32))
              fX12_searches_32 N n x1 x2 x3 v10 p4.2
set_option maxRecDepth 200000 in
theorem bX12_searches_32 {l : Launch} {w : nW} (N : Nat) {G : nG} (hG : n_GOK G) : ∀ (n : Nat) (x1 : Int32) (x2 : Int32) (x3 : Int32) (x4 : Int32) (M : nM) (r : Int32 × nM), fX12_searches_32 N n x1 x2 x3 x4 M = some r → n_At l w 5 mX12_searches 32 [(0, .ref 107), (1, .int x1), (2, .int x2), (3, .int x3), (4, .int x4)] [] (G, M) (dv_i r.1, (G, r.2)) := by
  intro n
  induction n with
  | zero => intro x1 x2 x3 x4 M r h; cases (show (none : Option (Int32 × nM)) = some r from h)
  | succ n ih =>
    intro x1 x2 x3 x4 M r h
    exact n_seg (fin := n_fin dv_i G) (K := [(32, fun lv st M => n_lC 107 lv 0 (n_lI lv 1 (fun x1 => n_lI lv 2 (fun x2 => n_lI lv 3 (fun x3 => n_lI lv 4 (fun x4 => n_pE st (fX12_searches_32 N n x1 x2 x3 x4 M)))))))]) 76 (iX12_searches N hG) (n_kc (fun lv st M r h => by
      obtain ⟨e0, h1⟩ := n_lC_x h
      obtain ⟨x1, e1, h2⟩ := n_lI_x h1
      obtain ⟨x2, e2, h3⟩ := n_lI_x h2
      obtain ⟨x3, e3, h4⟩ := n_lI_x h3
      obtain ⟨x4, e4, h5⟩ := n_lI_x h4
      obtain ⟨rfl, h6⟩ := n_pE_x h5
      exact n_sub (n_qc e0 (n_qc e1 (n_qc e2 (n_qc e3 (n_qc e4 n_qe))))) (ih x1 x2 x3 x4 M r h6)) n_ke) (by rfl) h
def fX12_searches (N : Nat) (x1 : Int32) (x2 : Int32) (M : nM) : Option (Int32 × nM) :=
  n_chk (n_ib 100 ((16 : Int32) + x2)) <|
  n_chk (n_ib 100 ((16 : Int32) + x2)) <|
  let M1 : nM := n_up M 108 ((16 : Int32) + x2).toNatClampNeg ((M 108 ((16 : Int32) + x2).toNatClampNeg) + (1 : Int32))
  (fX12_notes (2 : Int32) x2 x1 M1).bind fun p2 =>
  fX12_searches_32 N N x1 x2 (0 : Int32) (0 : Int32) p2.2
set_option maxRecDepth 200000 in
theorem bX12_searches_0 {l : Launch} {w : nW} (N : Nat) {G : nG} (hG : n_GOK G) (x1 : Int32) (x2 : Int32) (M : nM) (r : Int32 × nM) (h : fX12_searches N x1 x2 M = some r) : n_At l w 5 mX12_searches 0 [(0, .ref 107), (1, .int x1), (2, .int x2)] [] (G, M) (dv_i r.1, (G, r.2)) :=
  n_seg (fin := n_fin dv_i G) (K := [(32, fun lv st M => n_lC 107 lv 0 (n_lI lv 1 (fun x1 => n_lI lv 2 (fun x2 => n_lI lv 3 (fun x3 => n_lI lv 4 (fun x4 => n_pE st (fX12_searches_32 N N x1 x2 x3 x4 M)))))))]) 26 (iX12_searches N hG) (n_kc (fun lv st M r h => by
      obtain ⟨e0, h1⟩ := n_lC_x h
      obtain ⟨x1, e1, h2⟩ := n_lI_x h1
      obtain ⟨x2, e2, h3⟩ := n_lI_x h2
      obtain ⟨x3, e3, h4⟩ := n_lI_x h3
      obtain ⟨x4, e4, h5⟩ := n_lI_x h4
      obtain ⟨rfl, h6⟩ := n_pE_x h5
      exact n_sub (n_qc e0 (n_qc e1 (n_qc e2 (n_qc e3 (n_qc e4 n_qe))))) (bX12_searches_32 N hG N x1 x2 x3 x4 M r h6)) n_ke) (by rfl) h
theorem eX12_searches {l : Launch} {w : nW} (N : Nat) {G : nG} (hG : n_GOK G) (z1 : Int32) (z2 : Int32) (M : nM) (r : Int32 × nM) (h : fX12_searches N z1 z2 M = some r) : n_Met l w 5 mX12_searches [.ref 107, .int z1, .int z2] (G, M) (dv_i r.1, (G, r.2)) :=
  n_entry (by decide +kernel) rfl (Nat.le_of_ble_eq_true rfl) (n_sub (lv := [(0, .ref 107), (1, .int z1), (2, .int z2)]) (n_qc rfl (n_qc rfl (n_qc rfl n_qe))) (bX12_searches_0 N hG z1 z2 M r h))
abbrev hX12_searches (N : Nat) : nF := fun T as M k => n_pC 107 as (fun as => n_pI as (fun z1 as => n_pI as (fun z2 as => n_pE as ((fX12_searches N z1 z2 M).bind fun p => k (dv_i p.1) p.2))))
theorem csX12_searches {l : Launch} {w : nW} (N : Nat) {G : nG} (hG : n_GOK G) : n_CS l w 5 mX12_searches G (hX12_searches N) := fun T as M k r h => by
  obtain ⟨t0, rfl, h1⟩ := n_pC_x h
  obtain ⟨z1, t1, rfl, h2⟩ := n_pI_x h1
  obtain ⟨z2, t2, rfl, h3⟩ := n_pI_x h2
  obtain ⟨rfl, hE⟩ := n_pE_x h3
  obtain ⟨p, hp, hk⟩ := Option.bind_eq_some_iff.mp hE
  exact ⟨_, _, eX12_searches N hG z1 z2 M p hp, hk⟩
/-! ===== SleightHouseModel.search(II)I ===== -/
def mX12_search : nY := (RX12, yX12_search, cX12_search, 3, some .int)
theorem okX12_search : n_MOK mX12_search 2 := ⟨w_1914, w_151, ⟨by decide +kernel, by decide +kernel, by decide +kernel⟩, by decide⟩
abbrev aX12_search (N : Nat) : List (Nat × nO (Int32 × nM)) := [(0, o_aload 0 1), (1, o_push (.int (0 : Int32)) 2), (2, o_pIc 107 0 5), (5, o_aload 0 6), (6, o_iload 1 7), (7, o_iload 2 8), (8, o_callVc 107 2 (hX12_canSearch) 11), (11, oi_ne 16 14), (14, o_push (.int (-1 : Int32)) 15), (15, o_iret), (16, o_aload 0 17), (17, o_callVc 107 0 (hX12_keepsAhead N) 20), (20, o_aload 0 21), (21, o_iload 1 22), (22, o_iload 2 23), (23, o_callVc 107 2 (hX12_searches N) 26), (26, o_iret)]
set_option maxRecDepth 200000 in
theorem iX12_search {l : Launch} {w : nW} (N : Nat) {G : nG} (hG : n_GOK G) : n_AllS l w 6 mX12_search G (n_fin dv_i G) (aX12_search N) :=
  n_c (s_aload_n (pc := 0) (k := 0) (by decide +kernel)) <|
  n_c (s_iconst (pc := 1) (n := 0) (by decide +kernel) (by decide +kernel)) <|
  n_c (s_pIc (s_putI (pc := 2) (ci := 12) (k := 0) (idx := 146) nok12 (by decide) rfl rfl (by decide +kernel) w_1407) (gk107 hG)) <|
  n_c (s_aload_n (pc := 5) (k := 0) (by decide +kernel)) <|
  n_c (s_iload_n (pc := 6) (k := 1) (by decide +kernel)) <|
  n_c (s_iload_n (pc := 7) (k := 2) (by decide +kernel)) <|
  n_c (s_callVc (s_callV (pc := 8) (csX12_canSearch hG) (by decide) okX12_canSearch nok12 w_1917 w_102 w_1915 (by decide +kernel)) (gk107 hG)) <|
  n_c (s_if_ne (pc := 11) (off := 5) (by decide +kernel) (by decide +kernel)) <|
  n_c (s_iconst (pc := 14) (n := -1) (by decide +kernel) (by decide +kernel)) <|
  n_c (s_iret (pc := 15) rfl (by decide +kernel)) <|
  n_c (s_aload_n (pc := 16) (k := 0) (by decide +kernel)) <|
  n_c (s_callVc (s_callV (pc := 17) (csX12_keepsAhead N hG) (by decide) okX12_keepsAhead nok12 w_1859 w_89 w_1857 (by decide +kernel)) (gk107 hG)) <|
  n_c (s_aload_n (pc := 20) (k := 0) (by decide +kernel)) <|
  n_c (s_iload_n (pc := 21) (k := 1) (by decide +kernel)) <|
  n_c (s_iload_n (pc := 22) (k := 2) (by decide +kernel)) <|
  n_c (s_callVc (s_callV (pc := 23) (csX12_searches N hG) (by decide) okX12_searches nok12 w_1921 w_103 w_1919 (by decide +kernel)) (gk107 hG)) <|
  n_c (s_iret (pc := 26) rfl (by decide +kernel)) <|
  n_e
def fX12_search (N : Nat) (x1 : Int32) (x2 : Int32) (M : nM) : Option (Int32 × nM) :=
  let M1 : nM := n_up M 107 0 (0 : Int32)
  (fX12_canSearch x1 x2 M1).bind fun p2 =>
  if ¬ p2.1 = 0 then
    (fX12_keepsAhead N p2.2).bind fun p3 =>
    (fX12_searches N x1 x2 p3.2).bind fun p4 =>
    some (p4.1, p4.2)
  else
    some ((-1 : Int32), p2.2)
set_option maxRecDepth 200000 in
theorem bX12_search_0 {l : Launch} {w : nW} (N : Nat) {G : nG} (hG : n_GOK G) (x1 : Int32) (x2 : Int32) (M : nM) (r : Int32 × nM) (h : fX12_search N x1 x2 M = some r) : n_At l w 6 mX12_search 0 [(0, .ref 107), (1, .int x1), (2, .int x2)] [] (G, M) (dv_i r.1, (G, r.2)) :=
  n_seg (fin := n_fin dv_i G) (K := []) 20 (iX12_search N hG) n_ke (by rfl) h
theorem eX12_search {l : Launch} {w : nW} (N : Nat) {G : nG} (hG : n_GOK G) (z1 : Int32) (z2 : Int32) (M : nM) (r : Int32 × nM) (h : fX12_search N z1 z2 M = some r) : n_Met l w 6 mX12_search [.ref 107, .int z1, .int z2] (G, M) (dv_i r.1, (G, r.2)) :=
  n_entry (by decide +kernel) rfl (Nat.le_of_ble_eq_true rfl) (n_sub (lv := [(0, .ref 107), (1, .int z1), (2, .int z2)]) (n_qc rfl (n_qc rfl (n_qc rfl n_qe))) (bX12_search_0 N hG z1 z2 M r h))
abbrev hX12_search (N : Nat) : nF := fun T as M k => n_pC 107 as (fun as => n_pI as (fun z1 as => n_pI as (fun z2 as => n_pE as ((fX12_search N z1 z2 M).bind fun p => k (dv_i p.1) p.2))))
theorem csX12_search {l : Launch} {w : nW} (N : Nat) {G : nG} (hG : n_GOK G) : n_CS l w 6 mX12_search G (hX12_search N) := fun T as M k r h => by
  obtain ⟨t0, rfl, h1⟩ := n_pC_x h
  obtain ⟨z1, t1, rfl, h2⟩ := n_pI_x h1
  obtain ⟨z2, t2, rfl, h3⟩ := n_pI_x h2
  obtain ⟨rfl, hE⟩ := n_pE_x h3
  obtain ⟨p, hp, hk⟩ := Option.bind_eq_some_iff.mp hE
  exact ⟨_, _, eX12_search N hG z1 z2 M p hp, hk⟩
