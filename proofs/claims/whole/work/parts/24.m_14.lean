/-! ===== SleightHouseModel.goesFrom(I)I ===== -/
def mX12_goesFrom : nY := (RX12, yX12_goesFrom, cX12_goesFrom, 6, some .int)
theorem okX12_goesFrom : n_MOK mX12_goesFrom 1 := ⟨w_2120, w_151, ⟨by decide +kernel, by decide +kernel, by decide +kernel⟩, by decide⟩
abbrev aX12_goesFrom (N : Nat) : List (Nat × nO (Int32 × nM)) := [(0, o_iload 1 1), (1, o_push (.int (6 : Int32)) 3), (3, o_idiv 4), (4, o_istore 6 2 5), (5, o_iload 2 6), (6, oi_ne 13 9), (9, o_push (.int (0 : Int32)) 10), (10, o_goto 26), (13, o_iload 2 14), (14, o_push (.int (2 : Int32)) 15), (15, oc_ne 22 18), (18, o_push (.int (5 : Int32)) 19), (19, o_goto 26), (22, o_iload 1 23), (23, o_push (.int (6 : Int32)) 25), (25, o_irem 26), (26, o_istore 6 3 27), (27, o_iload 2 28), (28, o_push (.int (1 : Int32)) 29), (29, oc_ne 36 32), (32, o_push (.int (5 : Int32)) 33), (33, o_goto 49), (36, o_iload 2 37), (37, o_push (.int (3 : Int32)) 38), (38, oc_ne 45 41), (41, o_push (.int (0 : Int32)) 42), (42, o_goto 49), (45, o_iload 1 46), (46, o_push (.int (6 : Int32)) 48), (48, o_irem 49), (49, o_istore 6 4 51), (51, o_aload 0 52), (52, o_push (.int (0 : Int32)) 53), (53, o_pIc 107 64 56), (56, o_aload 0 57), (57, o_iload 3 58), (58, o_push (.int (0 : Int32)) 59), (59, o_push (.int (5 : Int32)) 60), (60, o_callVc 107 3 (hX12_isIn) 63), (63, oi_eq 176 66), (66, o_aload 0 67), (67, o_iload 4 69), (69, o_push (.int (0 : Int32)) 70), (70, o_push (.int (5 : Int32)) 71), (71, o_callVc 107 3 (hX12_isIn) 74), (74, oi_eq 176 77), (77, o_aload 0 78), (78, o_gRc 107 143 81), (81, o_push (.int (6 : Int32)) 83), (83, o_iload 3 84), (84, o_imul 85), (85, o_iload 4 87), (87, o_iadd 88), (88, o_aldc 143 36 89), (89, o_istore 6 5 91), (91, o_iload 5 93), (93, oi_eq 134 96), (96, o_aload 0 97), (97, o_aload 0 98), (98, o_gIc 107 64 101), (101, o_push (.int (1 : Int32)) 102), (102, o_iadd 103), (103, o_pIc 107 64 106), (106, o_iload 5 108), (108, o_push (.int (2 : Int32)) 109), (109, oc_ne 118 112), (112, o_push (.int (3 : Int32)) 113), (113, o_iload 2 114), (114, o_isub 115), (115, o_goto 133), (118, o_iload 2 119), (119, o_push (.int (2 : Int32)) 120), (120, o_irem 121), (121, oi_ne 130 124), (124, o_iload 2 125), (125, o_push (.int (1 : Int32)) 126), (126, o_iadd 127), (127, o_goto 133), (130, o_iload 2 131), (131, o_push (.int (1 : Int32)) 132), (132, o_isub 133), (133, o_istore 6 2 134), (134, o_iload 2 135), (135, oi_ne 142 138), (138, o_iload 3 139), (139, o_push (.int (1 : Int32)) 140), (140, o_iadd 141), (141, o_istore 6 3 142), (142, o_iload 2 143), (143, o_push (.int (1 : Int32)) 144), (144, oc_ne 153 147), (147, o_iload 4 149), (149, o_push (.int (1 : Int32)) 150), (150, o_isub 151), (151, o_istore 6 4 153), (153, o_iload 2 154), (154, o_push (.int (2 : Int32)) 155), (155, oc_ne 162 158), (158, o_iload 3 159), (159, o_push (.int (1 : Int32)) 160), (160, o_isub 161), (161, o_istore 6 3 162), (162, o_iload 2 163), (163, o_push (.int (3 : Int32)) 164), (164, oc_ne 173 167), (167, o_iload 4 169), (169, o_push (.int (1 : Int32)) 170), (170, o_iadd 171), (171, o_istore 6 4 173), (173, o_goto 56), (176, o_iload 3 177), (177, oi_ge 183 180), (180, o_iload 4 182), (182, o_iret), (183, o_iload 4 185), (185, o_push (.int (5 : Int32)) 186), (186, oc_le 194 189), (189, o_push (.int (6 : Int32)) 191), (191, o_iload 3 192), (192, o_iadd 193), (193, o_iret), (194, o_iload 3 195), (195, o_push (.int (5 : Int32)) 196), (196, oc_le 207 199), (199, o_push (.int (12 : Int32)) 201), (201, o_iload 4 203), (203, o_iadd 204), (204, o_goto 211), (207, o_push (.int (18 : Int32)) 209), (209, o_iload 3 210), (210, o_iadd 211), (211, o_iret)]
set_option maxRecDepth 200000 in
theorem iX12_goesFrom {l : Launch} {w : nW} (N : Nat) {G : nG} (hG : n_GOK G) : n_AllS l w 1 mX12_goesFrom G (n_fin dv_i G) (aX12_goesFrom N) :=
  n_c (s_iload_n (pc := 0) (k := 1) (by decide +kernel)) <|
  n_c (s_bipush (pc := 1) (n := 6) (by decide +kernel) (by decide +kernel)) <|
  n_c (s_idiv (pc := 3) (by decide +kernel)) <|
  n_c (s_istore_n (pc := 4) (k := 2) (by decide +kernel)) <|
  n_c (s_iload_n (pc := 5) (k := 2) (by decide +kernel)) <|
  n_c (s_if_ne (pc := 6) (off := 7) (by decide +kernel) (by decide +kernel)) <|
  n_c (s_iconst (pc := 9) (n := 0) (by decide +kernel) (by decide +kernel)) <|
  n_c (s_goto (pc := 10) (off := 16) (by decide +kernel) (by decide +kernel)) <|
  n_c (s_iload_n (pc := 13) (k := 2) (by decide +kernel)) <|
  n_c (s_iconst (pc := 14) (n := 2) (by decide +kernel) (by decide +kernel)) <|
  n_c (s_icmp_ne (pc := 15) (off := 7) (by decide +kernel) (by decide +kernel)) <|
  n_c (s_iconst (pc := 18) (n := 5) (by decide +kernel) (by decide +kernel)) <|
  n_c (s_goto (pc := 19) (off := 7) (by decide +kernel) (by decide +kernel)) <|
  n_c (s_iload_n (pc := 22) (k := 1) (by decide +kernel)) <|
  n_c (s_bipush (pc := 23) (n := 6) (by decide +kernel) (by decide +kernel)) <|
  n_c (s_irem (pc := 25) (by decide +kernel)) <|
  n_c (s_istore_n (pc := 26) (k := 3) (by decide +kernel)) <|
  n_c (s_iload_n (pc := 27) (k := 2) (by decide +kernel)) <|
  n_c (s_iconst (pc := 28) (n := 1) (by decide +kernel) (by decide +kernel)) <|
  n_c (s_icmp_ne (pc := 29) (off := 7) (by decide +kernel) (by decide +kernel)) <|
  n_c (s_iconst (pc := 32) (n := 5) (by decide +kernel) (by decide +kernel)) <|
  n_c (s_goto (pc := 33) (off := 16) (by decide +kernel) (by decide +kernel)) <|
  n_c (s_iload_n (pc := 36) (k := 2) (by decide +kernel)) <|
  n_c (s_iconst (pc := 37) (n := 3) (by decide +kernel) (by decide +kernel)) <|
  n_c (s_icmp_ne (pc := 38) (off := 7) (by decide +kernel) (by decide +kernel)) <|
  n_c (s_iconst (pc := 41) (n := 0) (by decide +kernel) (by decide +kernel)) <|
  n_c (s_goto (pc := 42) (off := 7) (by decide +kernel) (by decide +kernel)) <|
  n_c (s_iload_n (pc := 45) (k := 1) (by decide +kernel)) <|
  n_c (s_bipush (pc := 46) (n := 6) (by decide +kernel) (by decide +kernel)) <|
  n_c (s_irem (pc := 48) (by decide +kernel)) <|
  n_c (s_istore (pc := 49) (by decide +kernel)) <|
  n_c (s_aload_n (pc := 51) (k := 0) (by decide +kernel)) <|
  n_c (s_iconst (pc := 52) (n := 0) (by decide +kernel) (by decide +kernel)) <|
  n_c (s_pIc (s_putI (pc := 53) (ci := 12) (k := 64) (idx := 484) nok12 (by decide) rfl rfl (by decide +kernel) w_1471) (gk107 hG)) <|
  n_c (s_aload_n (pc := 56) (k := 0) (by decide +kernel)) <|
  n_c (s_iload_n (pc := 57) (k := 3) (by decide +kernel)) <|
  n_c (s_iconst (pc := 58) (n := 0) (by decide +kernel) (by decide +kernel)) <|
  n_c (s_iconst (pc := 59) (n := 5) (by decide +kernel) (by decide +kernel)) <|
  n_c (s_callVc (s_callV (pc := 60) (csX12_isIn) (by decide) okX12_isIn nok12 w_1659 w_46 w_1657 (by decide +kernel)) (gk107 hG)) <|
  n_c (s_if_eq (pc := 63) (off := 113) (by decide +kernel) (by decide +kernel)) <|
  n_c (s_aload_n (pc := 66) (k := 0) (by decide +kernel)) <|
  n_c (s_iload (pc := 67) (by decide +kernel)) <|
  n_c (s_iconst (pc := 69) (n := 0) (by decide +kernel) (by decide +kernel)) <|
  n_c (s_iconst (pc := 70) (n := 5) (by decide +kernel) (by decide +kernel)) <|
  n_c (s_callVc (s_callV (pc := 71) (csX12_isIn) (by decide) okX12_isIn nok12 w_1659 w_46 w_1657 (by decide +kernel)) (gk107 hG)) <|
  n_c (s_if_eq (pc := 74) (off := 102) (by decide +kernel) (by decide +kernel)) <|
  n_c (s_aload_n (pc := 77) (k := 0) (by decide +kernel)) <|
  n_c (s_gRc (s_getR (pc := 78) (ci := 12) (k := 63) (idx := 119) nok12 (by decide) rfl (by decide +kernel) w_1470) (gk107 hG) (gm107_63 hG)) <|
  n_c (s_bipush (pc := 81) (n := 6) (by decide +kernel) (by decide +kernel)) <|
  n_c (s_iload_n (pc := 83) (k := 3) (by decide +kernel)) <|
  n_c (s_imul (pc := 84) (by decide +kernel)) <|
  n_c (s_iload (pc := 85) (by decide +kernel)) <|
  n_c (s_iadd (pc := 87) (by decide +kernel)) <|
  n_c (s_aldc (s_iaload (pc := 88) (by decide +kernel)) (gk143 hG) (gl143 hG)) <|
  n_c (s_istore (pc := 89) (by decide +kernel)) <|
  n_c (s_iload (pc := 91) (by decide +kernel)) <|
  n_c (s_if_eq (pc := 93) (off := 41) (by decide +kernel) (by decide +kernel)) <|
  n_c (s_aload_n (pc := 96) (k := 0) (by decide +kernel)) <|
  n_c (s_aload_n (pc := 97) (k := 0) (by decide +kernel)) <|
  n_c (s_gIc (s_getI (pc := 98) (ci := 12) (k := 64) (idx := 484) nok12 (by decide) rfl (by decide +kernel) w_1471) (gk107 hG)) <|
  n_c (s_iconst (pc := 101) (n := 1) (by decide +kernel) (by decide +kernel)) <|
  n_c (s_iadd (pc := 102) (by decide +kernel)) <|
  n_c (s_pIc (s_putI (pc := 103) (ci := 12) (k := 64) (idx := 484) nok12 (by decide) rfl rfl (by decide +kernel) w_1471) (gk107 hG)) <|
  n_c (s_iload (pc := 106) (by decide +kernel)) <|
  n_c (s_iconst (pc := 108) (n := 2) (by decide +kernel) (by decide +kernel)) <|
  n_c (s_icmp_ne (pc := 109) (off := 9) (by decide +kernel) (by decide +kernel)) <|
  n_c (s_iconst (pc := 112) (n := 3) (by decide +kernel) (by decide +kernel)) <|
  n_c (s_iload_n (pc := 113) (k := 2) (by decide +kernel)) <|
  n_c (s_isub (pc := 114) (by decide +kernel)) <|
  n_c (s_goto (pc := 115) (off := 18) (by decide +kernel) (by decide +kernel)) <|
  n_c (s_iload_n (pc := 118) (k := 2) (by decide +kernel)) <|
  n_c (s_iconst (pc := 119) (n := 2) (by decide +kernel) (by decide +kernel)) <|
  n_c (s_irem (pc := 120) (by decide +kernel)) <|
  n_c (s_if_ne (pc := 121) (off := 9) (by decide +kernel) (by decide +kernel)) <|
  n_c (s_iload_n (pc := 124) (k := 2) (by decide +kernel)) <|
  n_c (s_iconst (pc := 125) (n := 1) (by decide +kernel) (by decide +kernel)) <|
  n_c (s_iadd (pc := 126) (by decide +kernel)) <|
  n_c (s_goto (pc := 127) (off := 6) (by decide +kernel) (by decide +kernel)) <|
  n_c (s_iload_n (pc := 130) (k := 2) (by decide +kernel)) <|
  n_c (s_iconst (pc := 131) (n := 1) (by decide +kernel) (by decide +kernel)) <|
  n_c (s_isub (pc := 132) (by decide +kernel)) <|
  n_c (s_istore_n (pc := 133) (k := 2) (by decide +kernel)) <|
  n_c (s_iload_n (pc := 134) (k := 2) (by decide +kernel)) <|
  n_c (s_if_ne (pc := 135) (off := 7) (by decide +kernel) (by decide +kernel)) <|
  n_c (s_iload_n (pc := 138) (k := 3) (by decide +kernel)) <|
  n_c (s_iconst (pc := 139) (n := 1) (by decide +kernel) (by decide +kernel)) <|
  n_c (s_iadd (pc := 140) (by decide +kernel)) <|
  n_c (s_istore_n (pc := 141) (k := 3) (by decide +kernel)) <|
  n_c (s_iload_n (pc := 142) (k := 2) (by decide +kernel)) <|
  n_c (s_iconst (pc := 143) (n := 1) (by decide +kernel) (by decide +kernel)) <|
  n_c (s_icmp_ne (pc := 144) (off := 9) (by decide +kernel) (by decide +kernel)) <|
  n_c (s_iload (pc := 147) (by decide +kernel)) <|
  n_c (s_iconst (pc := 149) (n := 1) (by decide +kernel) (by decide +kernel)) <|
  n_c (s_isub (pc := 150) (by decide +kernel)) <|
  n_c (s_istore (pc := 151) (by decide +kernel)) <|
  n_c (s_iload_n (pc := 153) (k := 2) (by decide +kernel)) <|
  n_c (s_iconst (pc := 154) (n := 2) (by decide +kernel) (by decide +kernel)) <|
  n_c (s_icmp_ne (pc := 155) (off := 7) (by decide +kernel) (by decide +kernel)) <|
  n_c (s_iload_n (pc := 158) (k := 3) (by decide +kernel)) <|
  n_c (s_iconst (pc := 159) (n := 1) (by decide +kernel) (by decide +kernel)) <|
  n_c (s_isub (pc := 160) (by decide +kernel)) <|
  n_c (s_istore_n (pc := 161) (k := 3) (by decide +kernel)) <|
  n_c (s_iload_n (pc := 162) (k := 2) (by decide +kernel)) <|
  n_c (s_iconst (pc := 163) (n := 3) (by decide +kernel) (by decide +kernel)) <|
  n_c (s_icmp_ne (pc := 164) (off := 9) (by decide +kernel) (by decide +kernel)) <|
  n_c (s_iload (pc := 167) (by decide +kernel)) <|
  n_c (s_iconst (pc := 169) (n := 1) (by decide +kernel) (by decide +kernel)) <|
  n_c (s_iadd (pc := 170) (by decide +kernel)) <|
  n_c (s_istore (pc := 171) (by decide +kernel)) <|
  n_c (s_goto (pc := 173) (off := -117) (by decide +kernel) (by decide +kernel)) <|
  n_c (s_iload_n (pc := 176) (k := 3) (by decide +kernel)) <|
  n_c (s_if_ge (pc := 177) (off := 6) (by decide +kernel) (by decide +kernel)) <|
  n_c (s_iload (pc := 180) (by decide +kernel)) <|
  n_c (s_iret (pc := 182) rfl (by decide +kernel)) <|
  n_c (s_iload (pc := 183) (by decide +kernel)) <|
  n_c (s_iconst (pc := 185) (n := 5) (by decide +kernel) (by decide +kernel)) <|
  n_c (s_icmp_le (pc := 186) (off := 8) (by decide +kernel) (by decide +kernel)) <|
  n_c (s_bipush (pc := 189) (n := 6) (by decide +kernel) (by decide +kernel)) <|
  n_c (s_iload_n (pc := 191) (k := 3) (by decide +kernel)) <|
  n_c (s_iadd (pc := 192) (by decide +kernel)) <|
  n_c (s_iret (pc := 193) rfl (by decide +kernel)) <|
  n_c (s_iload_n (pc := 194) (k := 3) (by decide +kernel)) <|
  n_c (s_iconst (pc := 195) (n := 5) (by decide +kernel) (by decide +kernel)) <|
  n_c (s_icmp_le (pc := 196) (off := 11) (by decide +kernel) (by decide +kernel)) <|
  n_c (s_bipush (pc := 199) (n := 12) (by decide +kernel) (by decide +kernel)) <|
  n_c (s_iload (pc := 201) (by decide +kernel)) <|
  n_c (s_iadd (pc := 203) (by decide +kernel)) <|
  n_c (s_goto (pc := 204) (off := 7) (by decide +kernel) (by decide +kernel)) <|
  n_c (s_bipush (pc := 207) (n := 18) (by decide +kernel) (by decide +kernel)) <|
  n_c (s_iload_n (pc := 209) (k := 3) (by decide +kernel)) <|
  n_c (s_iadd (pc := 210) (by decide +kernel)) <|
  n_c (s_iret (pc := 211) rfl (by decide +kernel)) <|
  n_e
def fX12_goesFrom_162 (N : Nat) (k56 : Int32 → Int32 → Int32 → nM → Option (Int32 × nM)) (x2 : Int32) (x3 : Int32) (x4 : Int32) (M : nM) : Option (Int32 × nM) :=
  if ¬ x2 = (3 : Int32) then
    k56 x2 x3 x4 M
  else
    let v1 : Int32 := (x4 + (1 : Int32))
    k56 x2 x3 v1 M
set_option maxRecDepth 200000 in
theorem bX12_goesFrom_162 {l : Launch} {w : nW} (N : Nat) {G : nG} (hG : n_GOK G) (k56 : Int32 → Int32 → Int32 → nM → Option (Int32 × nM)) (hk56 : ∀ (x2 : Int32) (x3 : Int32) (x4 : Int32) (M : nM) (r : Int32 × nM), k56 x2 x3 x4 M = some r → n_At l w 1 mX12_goesFrom 56 [(0, .ref 107), (2, .int x2), (3, .int x3), (4, .int x4)] [] (G, M) (dv_i r.1, (G, r.2))) (x2 : Int32) (x3 : Int32) (x4 : Int32) (M : nM) (r : Int32 × nM) (h : fX12_goesFrom_162 N k56 x2 x3 x4 M = some r) : n_At l w 1 mX12_goesFrom 162 [(0, .ref 107), (2, .int x2), (3, .int x3), (4, .int x4)] [] (G, M) (dv_i r.1, (G, r.2)) :=
  n_seg (fin := n_fin dv_i G) (K := [(56, fun lv st M => n_lC 107 lv 0 (n_lI lv 2 (fun x2 => n_lI lv 3 (fun x3 => n_lI lv 4 (fun x4 => n_pE st (k56 x2 x3 x4 M))))))]) 12 (iX12_goesFrom N hG) (n_kc (fun lv st M r h => by
      obtain ⟨e0, h1⟩ := n_lC_x h
      obtain ⟨x2, e2, h2⟩ := n_lI_x h1
      obtain ⟨x3, e3, h3⟩ := n_lI_x h2
      obtain ⟨x4, e4, h4⟩ := n_lI_x h3
      obtain ⟨rfl, h5⟩ := n_pE_x h4
      exact n_sub (n_qc e0 (n_qc e2 (n_qc e3 (n_qc e4 n_qe)))) (hk56 x2 x3 x4 M r h5)) n_ke) (by rfl) h
def fX12_goesFrom_153 (N : Nat) (k56 : Int32 → Int32 → Int32 → nM → Option (Int32 × nM)) (x2 : Int32) (x3 : Int32) (x4 : Int32) (M : nM) : Option (Int32 × nM) :=
  if ¬ x2 = (2 : Int32) then
    fX12_goesFrom_162 N k56 x2 x3 x4 M
  else
    let v1 : Int32 := (x3 - (1 : Int32))
    fX12_goesFrom_162 N k56 x2 v1 x4 M
set_option maxRecDepth 200000 in
theorem bX12_goesFrom_153 {l : Launch} {w : nW} (N : Nat) {G : nG} (hG : n_GOK G) (k56 : Int32 → Int32 → Int32 → nM → Option (Int32 × nM)) (hk56 : ∀ (x2 : Int32) (x3 : Int32) (x4 : Int32) (M : nM) (r : Int32 × nM), k56 x2 x3 x4 M = some r → n_At l w 1 mX12_goesFrom 56 [(0, .ref 107), (2, .int x2), (3, .int x3), (4, .int x4)] [] (G, M) (dv_i r.1, (G, r.2))) (x2 : Int32) (x3 : Int32) (x4 : Int32) (M : nM) (r : Int32 × nM) (h : fX12_goesFrom_153 N k56 x2 x3 x4 M = some r) : n_At l w 1 mX12_goesFrom 153 [(0, .ref 107), (2, .int x2), (3, .int x3), (4, .int x4)] [] (G, M) (dv_i r.1, (G, r.2)) :=
  n_seg (fin := n_fin dv_i G) (K := [(162, fun lv st M => n_lC 107 lv 0 (n_lI lv 2 (fun x2 => n_lI lv 3 (fun x3 => n_lI lv 4 (fun x4 => n_pE st (fX12_goesFrom_162 N k56 x2 x3 x4 M))))))]) 10 (iX12_goesFrom N hG) (n_kc (fun lv st M r h => by
      obtain ⟨e0, h1⟩ := n_lC_x h
      obtain ⟨x2, e2, h2⟩ := n_lI_x h1
      obtain ⟨x3, e3, h3⟩ := n_lI_x h2
      obtain ⟨x4, e4, h4⟩ := n_lI_x h3
      obtain ⟨rfl, h5⟩ := n_pE_x h4
      exact n_sub (n_qc e0 (n_qc e2 (n_qc e3 (n_qc e4 n_qe)))) (bX12_goesFrom_162 N hG k56 hk56 x2 x3 x4 M r h5)) n_ke) (by rfl) h
def fX12_goesFrom_142 (N : Nat) (k56 : Int32 → Int32 → Int32 → nM → Option (Int32 × nM)) (x2 : Int32) (x3 : Int32) (x4 : Int32) (M : nM) : Option (Int32 × nM) :=
  if ¬ x2 = (1 : Int32) then
    fX12_goesFrom_153 N k56 x2 x3 x4 M
  else
    let v1 : Int32 := (x4 - (1 : Int32))
    fX12_goesFrom_153 N k56 x2 x3 v1 M
set_option maxRecDepth 200000 in
theorem bX12_goesFrom_142 {l : Launch} {w : nW} (N : Nat) {G : nG} (hG : n_GOK G) (k56 : Int32 → Int32 → Int32 → nM → Option (Int32 × nM)) (hk56 : ∀ (x2 : Int32) (x3 : Int32) (x4 : Int32) (M : nM) (r : Int32 × nM), k56 x2 x3 x4 M = some r → n_At l w 1 mX12_goesFrom 56 [(0, .ref 107), (2, .int x2), (3, .int x3), (4, .int x4)] [] (G, M) (dv_i r.1, (G, r.2))) (x2 : Int32) (x3 : Int32) (x4 : Int32) (M : nM) (r : Int32 × nM) (h : fX12_goesFrom_142 N k56 x2 x3 x4 M = some r) : n_At l w 1 mX12_goesFrom 142 [(0, .ref 107), (2, .int x2), (3, .int x3), (4, .int x4)] [] (G, M) (dv_i r.1, (G, r.2)) :=
  n_seg (fin := n_fin dv_i G) (K := [(153, fun lv st M => n_lC 107 lv 0 (n_lI lv 2 (fun x2 => n_lI lv 3 (fun x3 => n_lI lv 4 (fun x4 => n_pE st (fX12_goesFrom_153 N k56 x2 x3 x4 M))))))]) 10 (iX12_goesFrom N hG) (n_kc (fun lv st M r h => by
      obtain ⟨e0, h1⟩ := n_lC_x h
      obtain ⟨x2, e2, h2⟩ := n_lI_x h1
      obtain ⟨x3, e3, h3⟩ := n_lI_x h2
      obtain ⟨x4, e4, h4⟩ := n_lI_x h3
      obtain ⟨rfl, h5⟩ := n_pE_x h4
      exact n_sub (n_qc e0 (n_qc e2 (n_qc e3 (n_qc e4 n_qe)))) (bX12_goesFrom_153 N hG k56 hk56 x2 x3 x4 M r h5)) n_ke) (by rfl) h
def fX12_goesFrom_134 (N : Nat) (k56 : Int32 → Int32 → Int32 → nM → Option (Int32 × nM)) (x2 : Int32) (x3 : Int32) (x4 : Int32) (M : nM) : Option (Int32 × nM) :=
  if ¬ x2 = 0 then
    fX12_goesFrom_142 N k56 x2 x3 x4 M
  else
    let v1 : Int32 := (x3 + (1 : Int32))
    fX12_goesFrom_142 N k56 x2 v1 x4 M
set_option maxRecDepth 200000 in
theorem bX12_goesFrom_134 {l : Launch} {w : nW} (N : Nat) {G : nG} (hG : n_GOK G) (k56 : Int32 → Int32 → Int32 → nM → Option (Int32 × nM)) (hk56 : ∀ (x2 : Int32) (x3 : Int32) (x4 : Int32) (M : nM) (r : Int32 × nM), k56 x2 x3 x4 M = some r → n_At l w 1 mX12_goesFrom 56 [(0, .ref 107), (2, .int x2), (3, .int x3), (4, .int x4)] [] (G, M) (dv_i r.1, (G, r.2))) (x2 : Int32) (x3 : Int32) (x4 : Int32) (M : nM) (r : Int32 × nM) (h : fX12_goesFrom_134 N k56 x2 x3 x4 M = some r) : n_At l w 1 mX12_goesFrom 134 [(0, .ref 107), (2, .int x2), (3, .int x3), (4, .int x4)] [] (G, M) (dv_i r.1, (G, r.2)) :=
  n_seg (fin := n_fin dv_i G) (K := [(142, fun lv st M => n_lC 107 lv 0 (n_lI lv 2 (fun x2 => n_lI lv 3 (fun x3 => n_lI lv 4 (fun x4 => n_pE st (fX12_goesFrom_142 N k56 x2 x3 x4 M))))))]) 9 (iX12_goesFrom N hG) (n_kc (fun lv st M r h => by
      obtain ⟨e0, h1⟩ := n_lC_x h
      obtain ⟨x2, e2, h2⟩ := n_lI_x h1
      obtain ⟨x3, e3, h3⟩ := n_lI_x h2
      obtain ⟨x4, e4, h4⟩ := n_lI_x h3
      obtain ⟨rfl, h5⟩ := n_pE_x h4
      exact n_sub (n_qc e0 (n_qc e2 (n_qc e3 (n_qc e4 n_qe)))) (bX12_goesFrom_142 N hG k56 hk56 x2 x3 x4 M r h5)) n_ke) (by rfl) h
def fX12_goesFrom_133 (N : Nat) (k56 : Int32 → Int32 → Int32 → nM → Option (Int32 × nM)) (x3 : Int32) (x4 : Int32) (s0 : Int32) (M : nM) : Option (Int32 × nM) :=
  fX12_goesFrom_134 N k56 s0 x3 x4 M
set_option maxRecDepth 200000 in
theorem bX12_goesFrom_133 {l : Launch} {w : nW} (N : Nat) {G : nG} (hG : n_GOK G) (k56 : Int32 → Int32 → Int32 → nM → Option (Int32 × nM)) (hk56 : ∀ (x2 : Int32) (x3 : Int32) (x4 : Int32) (M : nM) (r : Int32 × nM), k56 x2 x3 x4 M = some r → n_At l w 1 mX12_goesFrom 56 [(0, .ref 107), (2, .int x2), (3, .int x3), (4, .int x4)] [] (G, M) (dv_i r.1, (G, r.2))) (x3 : Int32) (x4 : Int32) (s0 : Int32) (M : nM) (r : Int32 × nM) (h : fX12_goesFrom_133 N k56 x3 x4 s0 M = some r) : n_At l w 1 mX12_goesFrom 133 [(0, .ref 107), (3, .int x3), (4, .int x4)] [.int s0] (G, M) (dv_i r.1, (G, r.2)) :=
  n_seg (fin := n_fin dv_i G) (K := [(134, fun lv st M => n_lC 107 lv 0 (n_lI lv 2 (fun x2 => n_lI lv 3 (fun x3 => n_lI lv 4 (fun x4 => n_pE st (fX12_goesFrom_134 N k56 x2 x3 x4 M))))))]) 4 (iX12_goesFrom N hG) (n_kc (fun lv st M r h => by
      obtain ⟨e0, h1⟩ := n_lC_x h
      obtain ⟨x2, e2, h2⟩ := n_lI_x h1
      obtain ⟨x3, e3, h3⟩ := n_lI_x h2
      obtain ⟨x4, e4, h4⟩ := n_lI_x h3
      obtain ⟨rfl, h5⟩ := n_pE_x h4
      exact n_sub (n_qc e0 (n_qc e2 (n_qc e3 (n_qc e4 n_qe)))) (bX12_goesFrom_134 N hG k56 hk56 x2 x3 x4 M r h5)) n_ke) (by rfl) h
def fX12_goesFrom_176 (N : Nat) (x3 : Int32) (x4 : Int32) (M : nM) : Option (Int32 × nM) :=
  if 0 ≤ x3 then
    if x4 ≤ (5 : Int32) then
      if x3 ≤ (5 : Int32) then
        some (((18 : Int32) + x3), M)
      else
        some (((12 : Int32) + x4), M)
    else
      some (((6 : Int32) + x3), M)
  else
    some (x4, M)
set_option maxRecDepth 200000 in
theorem bX12_goesFrom_176 {l : Launch} {w : nW} (N : Nat) {G : nG} (hG : n_GOK G) (x3 : Int32) (x4 : Int32) (M : nM) (r : Int32 × nM) (h : fX12_goesFrom_176 N x3 x4 M = some r) : n_At l w 1 mX12_goesFrom 176 [(3, .int x3), (4, .int x4)] [] (G, M) (dv_i r.1, (G, r.2)) :=
  n_seg (fin := n_fin dv_i G) (K := []) 26 (iX12_goesFrom N hG) n_ke (by rfl) h
def fX12_goesFrom_56 (N : Nat) : Nat → Int32 → Int32 → Int32 → nM → Option (Int32 × nM)
  | 0, _, _, _, _ => none
  | n + 1, x2, x3, x4, M =>
    (fX12_isIn x3 (0 : Int32) (5 : Int32) M).bind fun p1 =>
    if p1.1 = 0 then
      fX12_goesFrom_176 N x3 x4 p1.2
    else
      (fX12_isIn x4 (0 : Int32) (5 : Int32) p1.2).bind fun p2 =>
      if p2.1 = 0 then
        fX12_goesFrom_176 N x3 x4 p2.2
      else
        n_chk (n_ib 36 (((6 : Int32) * x3) + x4)) <|
        let v3 : Int32 := (p2.2 143 (((6 : Int32) * x3) + x4).toNatClampNeg)
        if v3 = 0 then
          fX12_goesFrom_134 N (fun x2 x3 x4 M => fX12_goesFrom_56 N n x2 x3 x4 M) x2 x3 x4 p2.2
        else
          let M4 : nM := n_up p2.2 107 64 ((p2.2 107 64) + (1 : Int32))
          if ¬ v3 = (2 : Int32) then
            if (2 : Int32) = 0 then none else
            if ¬ (x2 - x2 / (2 : Int32) * (2 : Int32)) = 0 then
              fX12_goesFrom_133 N (fun x2 x3 x4 M => fX12_goesFrom_56 N n x2 x3 x4 M) x3 x4 (x2 - (1 : Int32)) M4
            else
              fX12_goesFrom_133 N (fun x2 x3 x4 M => fX12_goesFrom_56 N n x2 x3 x4 M) x3 x4 (x2 + (1 : Int32)) M4
          else
            fX12_goesFrom_133 N (fun x2 x3 x4 M => fX12_goesFrom_56 N n x2 x3 x4 M) x3 x4 ((3 : Int32) - x2) M4
set_option maxRecDepth 200000 in
theorem bX12_goesFrom_56 {l : Launch} {w : nW} (N : Nat) {G : nG} (hG : n_GOK G) : ∀ (n : Nat) (x2 : Int32) (x3 : Int32) (x4 : Int32) (M : nM) (r : Int32 × nM), fX12_goesFrom_56 N n x2 x3 x4 M = some r → n_At l w 1 mX12_goesFrom 56 [(0, .ref 107), (2, .int x2), (3, .int x3), (4, .int x4)] [] (G, M) (dv_i r.1, (G, r.2)) := by
  intro n
  induction n with
  | zero => intro x2 x3 x4 M r h; cases (show (none : Option (Int32 × nM)) = some r from h)
  | succ n ih =>
    intro x2 x3 x4 M r h
    exact n_seg (fin := n_fin dv_i G) (K := [(133, fun lv st M => n_lC 107 lv 0 (n_lI lv 3 (fun x3 => n_lI lv 4 (fun x4 => n_pI st (fun s0 st => n_pE st (fX12_goesFrom_133 N (fun x2 x3 x4 M => fX12_goesFrom_56 N n x2 x3 x4 M) x3 x4 s0 M)))))), (134, fun lv st M => n_lC 107 lv 0 (n_lI lv 2 (fun x2 => n_lI lv 3 (fun x3 => n_lI lv 4 (fun x4 => n_pE st (fX12_goesFrom_134 N (fun x2 x3 x4 M => fX12_goesFrom_56 N n x2 x3 x4 M) x2 x3 x4 M)))))), (176, fun lv st M => n_lI lv 3 (fun x3 => n_lI lv 4 (fun x4 => n_pE st (fX12_goesFrom_176 N x3 x4 M))))]) 50 (iX12_goesFrom N hG) (n_kc (fun lv st M r h => by
      obtain ⟨e0, h1⟩ := n_lC_x h
      obtain ⟨x3, e3, h2⟩ := n_lI_x h1
      obtain ⟨x4, e4, h3⟩ := n_lI_x h2
      obtain ⟨s0, t0, rfl, h4⟩ := n_pI_x h3
      obtain ⟨rfl, h5⟩ := n_pE_x h4
      exact n_sub (n_qc e0 (n_qc e3 (n_qc e4 n_qe))) (bX12_goesFrom_133 N hG (fun x2 x3 x4 M => fX12_goesFrom_56 N n x2 x3 x4 M) ih x3 x4 s0 M r h5)) (n_kc (fun lv st M r h => by
      obtain ⟨e0, h1⟩ := n_lC_x h
      obtain ⟨x2, e2, h2⟩ := n_lI_x h1
      obtain ⟨x3, e3, h3⟩ := n_lI_x h2
      obtain ⟨x4, e4, h4⟩ := n_lI_x h3
      obtain ⟨rfl, h5⟩ := n_pE_x h4
      exact n_sub (n_qc e0 (n_qc e2 (n_qc e3 (n_qc e4 n_qe)))) (bX12_goesFrom_134 N hG (fun x2 x3 x4 M => fX12_goesFrom_56 N n x2 x3 x4 M) ih x2 x3 x4 M r h5)) (n_kc (fun lv st M r h => by
      obtain ⟨x3, e3, h1⟩ := n_lI_x h
      obtain ⟨x4, e4, h2⟩ := n_lI_x h1
      obtain ⟨rfl, h3⟩ := n_pE_x h2
      exact n_sub (n_qc e3 (n_qc e4 n_qe)) (bX12_goesFrom_176 N hG x3 x4 M r h3)) n_ke))) (by rfl) h
def fX12_goesFrom_26 (N : Nat) (x1 : Int32) (x2 : Int32) (s0 : Int32) (M : nM) : Option (Int32 × nM) :=
  if ¬ x2 = (1 : Int32) then
    if ¬ x2 = (3 : Int32) then
      if (6 : Int32) = 0 then none else
      let v1 : Int32 := (x1 - x1 / (6 : Int32) * (6 : Int32))
      let M2 : nM := n_up M 107 64 (0 : Int32)
      fX12_goesFrom_56 N N x2 s0 v1 M2
    else
      let M3 : nM := n_up M 107 64 (0 : Int32)
      fX12_goesFrom_56 N N x2 s0 (0 : Int32) M3
  else
    let M4 : nM := n_up M 107 64 (0 : Int32)
    fX12_goesFrom_56 N N x2 s0 (5 : Int32) M4
set_option maxRecDepth 200000 in
theorem bX12_goesFrom_26 {l : Launch} {w : nW} (N : Nat) {G : nG} (hG : n_GOK G) (x1 : Int32) (x2 : Int32) (s0 : Int32) (M : nM) (r : Int32 × nM) (h : fX12_goesFrom_26 N x1 x2 s0 M = some r) : n_At l w 1 mX12_goesFrom 26 [(0, .ref 107), (1, .int x1), (2, .int x2)] [.int s0] (G, M) (dv_i r.1, (G, r.2)) :=
  n_seg (fin := n_fin dv_i G) (K := [(56, fun lv st M => n_lC 107 lv 0 (n_lI lv 2 (fun x2 => n_lI lv 3 (fun x3 => n_lI lv 4 (fun x4 => n_pE st (fX12_goesFrom_56 N N x2 x3 x4 M))))))]) 29 (iX12_goesFrom N hG) (n_kc (fun lv st M r h => by
      obtain ⟨e0, h1⟩ := n_lC_x h
      obtain ⟨x2, e2, h2⟩ := n_lI_x h1
      obtain ⟨x3, e3, h3⟩ := n_lI_x h2
      obtain ⟨x4, e4, h4⟩ := n_lI_x h3
      obtain ⟨rfl, h5⟩ := n_pE_x h4
      exact n_sub (n_qc e0 (n_qc e2 (n_qc e3 (n_qc e4 n_qe)))) (bX12_goesFrom_56 N hG N x2 x3 x4 M r h5)) n_ke) (by rfl) h
def fX12_goesFrom (N : Nat) (x1 : Int32) (M : nM) : Option (Int32 × nM) :=
  if (6 : Int32) = 0 then none else
  let v1 : Int32 := (x1 / (6 : Int32))
  if ¬ v1 = 0 then
    if ¬ v1 = (2 : Int32) then
      if (6 : Int32) = 0 then none else
      fX12_goesFrom_26 N x1 v1 (x1 - x1 / (6 : Int32) * (6 : Int32)) M
    else
      fX12_goesFrom_26 N x1 v1 (5 : Int32) M
  else
    fX12_goesFrom_26 N x1 v1 (0 : Int32) M
set_option maxRecDepth 200000 in
theorem bX12_goesFrom_0 {l : Launch} {w : nW} (N : Nat) {G : nG} (hG : n_GOK G) (x1 : Int32) (M : nM) (r : Int32 × nM) (h : fX12_goesFrom N x1 M = some r) : n_At l w 1 mX12_goesFrom 0 [(0, .ref 107), (1, .int x1)] [] (G, M) (dv_i r.1, (G, r.2)) :=
  n_seg (fin := n_fin dv_i G) (K := [(26, fun lv st M => n_lC 107 lv 0 (n_lI lv 1 (fun x1 => n_lI lv 2 (fun x2 => n_pI st (fun s0 st => n_pE st (fX12_goesFrom_26 N x1 x2 s0 M))))))]) 19 (iX12_goesFrom N hG) (n_kc (fun lv st M r h => by
      obtain ⟨e0, h1⟩ := n_lC_x h
      obtain ⟨x1, e1, h2⟩ := n_lI_x h1
      obtain ⟨x2, e2, h3⟩ := n_lI_x h2
      obtain ⟨s0, t0, rfl, h4⟩ := n_pI_x h3
      obtain ⟨rfl, h5⟩ := n_pE_x h4
      exact n_sub (n_qc e0 (n_qc e1 (n_qc e2 n_qe))) (bX12_goesFrom_26 N hG x1 x2 s0 M r h5)) n_ke) (by rfl) h
theorem eX12_goesFrom {l : Launch} {w : nW} (N : Nat) {G : nG} (hG : n_GOK G) (z1 : Int32) (M : nM) (r : Int32 × nM) (h : fX12_goesFrom N z1 M = some r) : n_Met l w 1 mX12_goesFrom [.ref 107, .int z1] (G, M) (dv_i r.1, (G, r.2)) :=
  n_entry (by decide +kernel) rfl (Nat.le_of_ble_eq_true rfl) (n_sub (lv := [(0, .ref 107), (1, .int z1)]) (n_qc rfl (n_qc rfl n_qe)) (bX12_goesFrom_0 N hG z1 M r h))
abbrev hX12_goesFrom (N : Nat) : nF := fun T as M k => n_pC 107 as (fun as => n_pI as (fun z1 as => n_pE as ((fX12_goesFrom N z1 M).bind fun p => k (dv_i p.1) p.2)))
theorem csX12_goesFrom {l : Launch} {w : nW} (N : Nat) {G : nG} (hG : n_GOK G) : n_CS l w 1 mX12_goesFrom G (hX12_goesFrom N) := fun T as M k r h => by
  obtain ⟨t0, rfl, h1⟩ := n_pC_x h
  obtain ⟨z1, t1, rfl, h2⟩ := n_pI_x h1
  obtain ⟨rfl, hE⟩ := n_pE_x h2
  obtain ⟨p, hp, hk⟩ := Option.bind_eq_some_iff.mp hE
  exact ⟨_, _, eX12_goesFrom N hG z1 M p hp, hk⟩
/-! ===== SleightHouseModel.glance(II)I ===== -/
def mX12_glance : nY := (RX12, yX12_glance, cX12_glance, 4, some .int)
theorem okX12_glance : n_MOK mX12_glance 2 := ⟨w_2116, w_151, ⟨by decide +kernel, by decide +kernel, by decide +kernel⟩, by decide⟩
abbrev aX12_glance (N : Nat) : List (Nat × nO (Int32 × nM)) := [(0, o_aload 0 1), (1, o_push (.int (0 : Int32)) 2), (2, o_pIc 107 0 5), (5, o_aload 0 6), (6, o_iload 1 7), (7, o_push (.int (0 : Int32)) 8), (8, o_push (.int (23 : Int32)) 10), (10, o_callVc 107 3 (hX12_isIn) 13), (13, oi_eq 26 16), (16, o_aload 0 17), (17, o_iload 2 18), (18, o_push (.int (0 : Int32)) 19), (19, o_push (.int (1 : Int32)) 20), (20, o_callVc 107 3 (hX12_isIn) 23), (23, oi_ne 28 26), (26, o_push (.int (-1 : Int32)) 27), (27, o_iret), (28, o_aload 0 29), (29, o_iload 1 30), (30, o_callVc 107 1 (hX12_goesFrom N) 33), (33, o_istore 4 3 34), (34, o_iload 2 35), (35, oi_ne 42 38), (38, o_iload 3 39), (39, o_goto 46), (42, o_aload 0 43), (43, o_gIc 107 64 46), (46, o_iret)]
set_option maxRecDepth 200000 in
theorem iX12_glance {l : Launch} {w : nW} (N : Nat) {G : nG} (hG : n_GOK G) : n_AllS l w 2 mX12_glance G (n_fin dv_i G) (aX12_glance N) :=
  n_c (s_aload_n (pc := 0) (k := 0) (by decide +kernel)) <|
  n_c (s_iconst (pc := 1) (n := 0) (by decide +kernel) (by decide +kernel)) <|
  n_c (s_pIc (s_putI (pc := 2) (ci := 12) (k := 0) (idx := 146) nok12 (by decide) rfl rfl (by decide +kernel) w_1407) (gk107 hG)) <|
  n_c (s_aload_n (pc := 5) (k := 0) (by decide +kernel)) <|
  n_c (s_iload_n (pc := 6) (k := 1) (by decide +kernel)) <|
  n_c (s_iconst (pc := 7) (n := 0) (by decide +kernel) (by decide +kernel)) <|
  n_c (s_bipush (pc := 8) (n := 23) (by decide +kernel) (by decide +kernel)) <|
  n_c (s_callVc (s_callV (pc := 10) (csX12_isIn) (by decide) okX12_isIn nok12 w_1659 w_46 w_1657 (by decide +kernel)) (gk107 hG)) <|
  n_c (s_if_eq (pc := 13) (off := 13) (by decide +kernel) (by decide +kernel)) <|
  n_c (s_aload_n (pc := 16) (k := 0) (by decide +kernel)) <|
  n_c (s_iload_n (pc := 17) (k := 2) (by decide +kernel)) <|
  n_c (s_iconst (pc := 18) (n := 0) (by decide +kernel) (by decide +kernel)) <|
  n_c (s_iconst (pc := 19) (n := 1) (by decide +kernel) (by decide +kernel)) <|
  n_c (s_callVc (s_callV (pc := 20) (csX12_isIn) (by decide) okX12_isIn nok12 w_1659 w_46 w_1657 (by decide +kernel)) (gk107 hG)) <|
  n_c (s_if_ne (pc := 23) (off := 5) (by decide +kernel) (by decide +kernel)) <|
  n_c (s_iconst (pc := 26) (n := -1) (by decide +kernel) (by decide +kernel)) <|
  n_c (s_iret (pc := 27) rfl (by decide +kernel)) <|
  n_c (s_aload_n (pc := 28) (k := 0) (by decide +kernel)) <|
  n_c (s_iload_n (pc := 29) (k := 1) (by decide +kernel)) <|
  n_c (s_callVc (s_callV (pc := 30) (csX12_goesFrom N hG) (by decide) okX12_goesFrom nok12 w_2119 w_126 w_2117 (by decide +kernel)) (gk107 hG)) <|
  n_c (s_istore_n (pc := 33) (k := 3) (by decide +kernel)) <|
  n_c (s_iload_n (pc := 34) (k := 2) (by decide +kernel)) <|
  n_c (s_if_ne (pc := 35) (off := 7) (by decide +kernel) (by decide +kernel)) <|
  n_c (s_iload_n (pc := 38) (k := 3) (by decide +kernel)) <|
  n_c (s_goto (pc := 39) (off := 7) (by decide +kernel) (by decide +kernel)) <|
  n_c (s_aload_n (pc := 42) (k := 0) (by decide +kernel)) <|
  n_c (s_gIc (s_getI (pc := 43) (ci := 12) (k := 64) (idx := 484) nok12 (by decide) rfl (by decide +kernel) w_1471) (gk107 hG)) <|
  n_c (s_iret (pc := 46) rfl (by decide +kernel)) <|
  n_e
def fX12_glance (N : Nat) (x1 : Int32) (x2 : Int32) (M : nM) : Option (Int32 × nM) :=
  let M1 : nM := n_up M 107 0 (0 : Int32)
  (fX12_isIn x1 (0 : Int32) (23 : Int32) M1).bind fun p2 =>
  if p2.1 = 0 then
    some ((-1 : Int32), p2.2)
  else
    (fX12_isIn x2 (0 : Int32) (1 : Int32) p2.2).bind fun p3 =>
    if ¬ p3.1 = 0 then
      (fX12_goesFrom N x1 p3.2).bind fun p4 =>
      if ¬ x2 = 0 then
        some ((p4.2 107 64), p4.2)
      else
        some (p4.1, p4.2)
    else
      some ((-1 : Int32), p3.2)
set_option maxRecDepth 200000 in
theorem bX12_glance_0 {l : Launch} {w : nW} (N : Nat) {G : nG} (hG : n_GOK G) (x1 : Int32) (x2 : Int32) (M : nM) (r : Int32 × nM) (h : fX12_glance N x1 x2 M = some r) : n_At l w 2 mX12_glance 0 [(0, .ref 107), (1, .int x1), (2, .int x2)] [] (G, M) (dv_i r.1, (G, r.2)) :=
  n_seg (fin := n_fin dv_i G) (K := []) 34 (iX12_glance N hG) n_ke (by rfl) h
theorem eX12_glance {l : Launch} {w : nW} (N : Nat) {G : nG} (hG : n_GOK G) (z1 : Int32) (z2 : Int32) (M : nM) (r : Int32 × nM) (h : fX12_glance N z1 z2 M = some r) : n_Met l w 2 mX12_glance [.ref 107, .int z1, .int z2] (G, M) (dv_i r.1, (G, r.2)) :=
  n_entry (by decide +kernel) rfl (Nat.le_of_ble_eq_true rfl) (n_sub (lv := [(0, .ref 107), (1, .int z1), (2, .int z2)]) (n_qc rfl (n_qc rfl (n_qc rfl n_qe))) (bX12_glance_0 N hG z1 z2 M r h))
abbrev hX12_glance (N : Nat) : nF := fun T as M k => n_pC 107 as (fun as => n_pI as (fun z1 as => n_pI as (fun z2 as => n_pE as ((fX12_glance N z1 z2 M).bind fun p => k (dv_i p.1) p.2))))
theorem csX12_glance {l : Launch} {w : nW} (N : Nat) {G : nG} (hG : n_GOK G) : n_CS l w 2 mX12_glance G (hX12_glance N) := fun T as M k r h => by
  obtain ⟨t0, rfl, h1⟩ := n_pC_x h
  obtain ⟨z1, t1, rfl, h2⟩ := n_pI_x h1
  obtain ⟨z2, t2, rfl, h3⟩ := n_pI_x h2
  obtain ⟨rfl, hE⟩ := n_pE_x h3
  obtain ⟨p, hp, hk⟩ := Option.bind_eq_some_iff.mp hE
  exact ⟨_, _, eX12_glance N hG z1 z2 M p hp, hk⟩
/-! ===== SleightHouse.clue(IIZ)I ===== -/
def mX11_clue : nY := (RX11, yX11_clue, cX11_clue, 4, some .int)
theorem okX11_clue : n_MOK mX11_clue 3 := ⟨w_1320, w_137, ⟨by decide +kernel, by decide +kernel, by decide +kernel⟩, by decide⟩
abbrev aX11_clue (G : nG) : List (Nat × nO (Int32 × nM)) := [(0, o_iload 1 1), (1, o_push (.int (-1 : Int32)) 2), (2, oc_ne 19 5), (5, o_aload 0 6), (6, o_gRc 1 2 9), (9, o_gRc 2 28 12), (12, o_gRc 28 37 15), (15, o_callVc 37 0 (hX7_clear G) 18), (18, o_iret), (19, o_iload 1 20), (20, o_push (.int (0 : Int32)) 21), (21, o_push (.int (7 : Int32)) 23), (23, o_call 3 (hX11_within) 26), (26, oi_eq 39 29), (29, o_iload 2 30), (30, o_push (.int (0 : Int32)) 31), (31, o_push (.int (7 : Int32)) 33), (33, o_call 3 (hX11_within) 36), (36, oi_ne 41 39), (39, o_push (.int (-1 : Int32)) 40), (40, o_iret), (41, o_aload 0 42), (42, o_gRc 1 2 45), (45, o_gRc 2 28 48), (48, o_gRc 28 37 51), (51, o_iload 1 52), (52, o_iload 2 53), (53, o_iload 3 54), (54, oi_eq 61 57), (57, o_push (.int (1 : Int32)) 58), (58, o_goto 62), (61, o_push (.int (0 : Int32)) 62), (62, o_push (.int (0 : Int32)) 63), (63, o_callVc 37 4 (hX7_add G) 66), (66, o_iret)]
set_option maxRecDepth 200000 in
theorem iX11_clue {l : Launch} {w : nW} {G : nG} (hG : n_GOK G) : n_AllS l w 2 mX11_clue G (n_fin dv_i G) (aX11_clue G) :=
  n_c (s_iload_n (pc := 0) (k := 1) (by decide +kernel)) <|
  n_c (s_iconst (pc := 1) (n := -1) (by decide +kernel) (by decide +kernel)) <|
  n_c (s_icmp_ne (pc := 2) (off := 17) (by decide +kernel) (by decide +kernel)) <|
  n_c (s_aload_n (pc := 5) (k := 0) (by decide +kernel)) <|
  n_c (s_gRc (s_getR (pc := 6) (ci := 11) (k := 0) (idx := 10) nok11 (by decide) rfl (by decide +kernel) w_572) (gk1 hG) (gm1_0 hG)) <|
  n_c (s_gRc (s_getR (pc := 9) (ci := 1) (k := 7) (idx := 56) nok1 (by decide) rfl (by decide +kernel) w_421) (gk2 hG) (gm2_7 hG)) <|
  n_c (s_gRc (s_getR (pc := 12) (ci := 10) (k := 4) (idx := 381) nok10 (by decide) rfl (by decide +kernel) w_371) (gk28 hG) (gm28_4 hG)) <|
  n_c (s_callVc (s_callV (pc := 15) (csX7_clear) (by decide) okX7_clear nok7 w_962 w_963 w_1129 (by decide +kernel)) (gk37 hG)) <|
  n_c (s_iret (pc := 18) rfl (by decide +kernel)) <|
  n_c (s_iload_n (pc := 19) (k := 1) (by decide +kernel)) <|
  n_c (s_iconst (pc := 20) (n := 0) (by decide +kernel) (by decide +kernel)) <|
  n_c (s_bipush (pc := 21) (n := 7) (by decide +kernel) (by decide +kernel)) <|
  n_c (s_callS (pc := 23) (csX11_within) (by decide) okX11_within w_610 w_609 (by decide +kernel)) <|
  n_c (s_if_eq (pc := 26) (off := 13) (by decide +kernel) (by decide +kernel)) <|
  n_c (s_iload_n (pc := 29) (k := 2) (by decide +kernel)) <|
  n_c (s_iconst (pc := 30) (n := 0) (by decide +kernel) (by decide +kernel)) <|
  n_c (s_bipush (pc := 31) (n := 7) (by decide +kernel) (by decide +kernel)) <|
  n_c (s_callS (pc := 33) (csX11_within) (by decide) okX11_within w_610 w_609 (by decide +kernel)) <|
  n_c (s_if_ne (pc := 36) (off := 5) (by decide +kernel) (by decide +kernel)) <|
  n_c (s_iconst (pc := 39) (n := -1) (by decide +kernel) (by decide +kernel)) <|
  n_c (s_iret (pc := 40) rfl (by decide +kernel)) <|
  n_c (s_aload_n (pc := 41) (k := 0) (by decide +kernel)) <|
  n_c (s_gRc (s_getR (pc := 42) (ci := 11) (k := 0) (idx := 10) nok11 (by decide) rfl (by decide +kernel) w_572) (gk1 hG) (gm1_0 hG)) <|
  n_c (s_gRc (s_getR (pc := 45) (ci := 1) (k := 7) (idx := 56) nok1 (by decide) rfl (by decide +kernel) w_421) (gk2 hG) (gm2_7 hG)) <|
  n_c (s_gRc (s_getR (pc := 48) (ci := 10) (k := 4) (idx := 381) nok10 (by decide) rfl (by decide +kernel) w_371) (gk28 hG) (gm28_4 hG)) <|
  n_c (s_iload_n (pc := 51) (k := 1) (by decide +kernel)) <|
  n_c (s_iload_n (pc := 52) (k := 2) (by decide +kernel)) <|
  n_c (s_iload_n (pc := 53) (k := 3) (by decide +kernel)) <|
  n_c (s_if_eq (pc := 54) (off := 7) (by decide +kernel) (by decide +kernel)) <|
  n_c (s_iconst (pc := 57) (n := 1) (by decide +kernel) (by decide +kernel)) <|
  n_c (s_goto (pc := 58) (off := 4) (by decide +kernel) (by decide +kernel)) <|
  n_c (s_iconst (pc := 61) (n := 0) (by decide +kernel) (by decide +kernel)) <|
  n_c (s_iconst (pc := 62) (n := 0) (by decide +kernel) (by decide +kernel)) <|
  n_c (s_callVc (s_callV (pc := 63) (csX7_add) (by decide) okX7_add nok7 w_1030 w_1031 w_1130 (by decide +kernel)) (gk37 hG)) <|
  n_c (s_iret (pc := 66) rfl (by decide +kernel)) <|
  n_e
def fX11_clue_62 (G : nG) (s0 : Int32) (s1 : Int32) (s2 : Int32) (M : nM) : Option (Int32 × nM) :=
  (fX7_add G 37 s2 s1 s0 (0 : Int32) M).bind fun p1 =>
  some (p1.1, p1.2)
set_option maxRecDepth 200000 in
theorem bX11_clue_62 {l : Launch} {w : nW} {G : nG} (hG : n_GOK G) (s0 : Int32) (s1 : Int32) (s2 : Int32) (M : nM) (r : Int32 × nM) (h : fX11_clue_62 G s0 s1 s2 M = some r) : n_At l w 2 mX11_clue 62 [] [.int s0, .int s1, .int s2, .ref 37] (G, M) (dv_i r.1, (G, r.2)) :=
  n_seg (fin := n_fin dv_i G) (K := []) 6 (iX11_clue hG) n_ke (by rfl) h
def fX11_clue (G : nG) (x1 : Int32) (x2 : Int32) (x3 : Int32) (M : nM) : Option (Int32 × nM) :=
  if ¬ x1 = (-1 : Int32) then
    (fX11_within x1 (0 : Int32) (7 : Int32) M).bind fun p1 =>
    if p1.1 = 0 then
      some ((-1 : Int32), p1.2)
    else
      (fX11_within x2 (0 : Int32) (7 : Int32) p1.2).bind fun p2 =>
      if ¬ p2.1 = 0 then
        if x3 = 0 then
          fX11_clue_62 G (0 : Int32) x2 x1 p2.2
        else
          fX11_clue_62 G (1 : Int32) x2 x1 p2.2
      else
        some ((-1 : Int32), p2.2)
  else
    (fX7_clear G 37 M).bind fun p3 =>
    some (p3.1, p3.2)
set_option maxRecDepth 200000 in
theorem bX11_clue_0 {l : Launch} {w : nW} {G : nG} (hG : n_GOK G) (x1 : Int32) (x2 : Int32) (x3 : Int32) (M : nM) (r : Int32 × nM) (h : fX11_clue G x1 x2 x3 M = some r) : n_At l w 2 mX11_clue 0 [(0, .ref 1), (1, .int x1), (2, .int x2), (3, .int x3)] [] (G, M) (dv_i r.1, (G, r.2)) :=
  n_seg (fin := n_fin dv_i G) (K := [(62, fun lv st M => n_pI st (fun s0 st => n_pI st (fun s1 st => n_pI st (fun s2 st => n_pC 37 st (fun st => n_pE st (fX11_clue_62 G s0 s1 s2 M))))))]) 37 (iX11_clue hG) (n_kc (fun lv st M r h => by
      obtain ⟨s0, t0, rfl, h1⟩ := n_pI_x h
      obtain ⟨s1, t1, rfl, h2⟩ := n_pI_x h1
      obtain ⟨s2, t2, rfl, h3⟩ := n_pI_x h2
      obtain ⟨t3, rfl, h4⟩ := n_pC_x h3
      obtain ⟨rfl, h5⟩ := n_pE_x h4
      exact n_sub n_qe (bX11_clue_62 hG s0 s1 s2 M r h5)) n_ke) (by rfl) h
theorem eX11_clue {l : Launch} {w : nW} {G : nG} (hG : n_GOK G) (z1 : Int32) (z2 : Int32) (z3 : Int32) (M : nM) (r : Int32 × nM) (h : fX11_clue G z1 z2 z3 M = some r) : n_Met l w 2 mX11_clue [.ref 1, .int z1, .int z2, .int z3] (G, M) (dv_i r.1, (G, r.2)) :=
  n_entry (by decide +kernel) rfl (Nat.le_of_ble_eq_true rfl) (n_sub (lv := [(0, .ref 1), (1, .int z1), (2, .int z2), (3, .int z3)]) (n_qc rfl (n_qc rfl (n_qc rfl (n_qc rfl n_qe)))) (bX11_clue_0 hG z1 z2 z3 M r h))
abbrev hX11_clue (G : nG) : nF := fun T as M k => n_pC 1 as (fun as => n_pI as (fun z1 as => n_pI as (fun z2 as => n_pI as (fun z3 as => n_pE as ((fX11_clue G z1 z2 z3 M).bind fun p => k (dv_i p.1) p.2)))))
theorem csX11_clue {l : Launch} {w : nW} {G : nG} (hG : n_GOK G) : n_CS l w 2 mX11_clue G (hX11_clue G) := fun T as M k r h => by
  obtain ⟨t0, rfl, h1⟩ := n_pC_x h
  obtain ⟨z1, t1, rfl, h2⟩ := n_pI_x h1
  obtain ⟨z2, t2, rfl, h3⟩ := n_pI_x h2
  obtain ⟨z3, t3, rfl, h4⟩ := n_pI_x h3
  obtain ⟨rfl, hE⟩ := n_pE_x h4
  obtain ⟨p, hp, hk⟩ := Option.bind_eq_some_iff.mp hE
  exact ⟨_, _, eX11_clue hG z1 z2 z3 M p hp, hk⟩
/-! ===== SleightHouseModel.clue(IIZ)I ===== -/
def mX12_clue : nY := (RX12, yX12_clue, cX12_clue, 4, some .int)
theorem okX12_clue : n_MOK mX12_clue 3 := ⟨w_2124, w_151, ⟨by decide +kernel, by decide +kernel, by decide +kernel⟩, by decide⟩
abbrev aX12_clue : List (Nat × nO (Int32 × nM)) := [(0, o_aload 0 1), (1, o_push (.int (0 : Int32)) 2), (2, o_pIc 107 0 5), (5, o_iload 1 6), (6, o_push (.int (-1 : Int32)) 7), (7, oc_ne 17 10), (10, o_aload 0 11), (11, o_push (.int (0 : Int32)) 12), (12, o_pIc 107 65 15), (15, o_push (.int (0 : Int32)) 16), (16, o_iret), (17, o_aload 0 18), (18, o_iload 1 19), (19, o_push (.int (0 : Int32)) 20), (20, o_push (.int (7 : Int32)) 22), (22, o_callVc 107 3 (hX12_isIn) 25), (25, oi_eq 48 28), (28, o_aload 0 29), (29, o_iload 2 30), (30, o_push (.int (0 : Int32)) 31), (31, o_push (.int (7 : Int32)) 33), (33, o_callVc 107 3 (hX12_isIn) 36), (36, oi_eq 48 39), (39, o_aload 0 40), (40, o_gIc 107 65 43), (43, o_push (.int (10 : Int32)) 45), (45, oc_ne 50 48), (48, o_push (.int (-1 : Int32)) 49), (49, o_iret), (50, o_aload 0 51), (51, o_gRc 107 144 54), (54, o_aload 0 55), (55, o_gIc 107 65 58), (58, o_iload 1 59), (59, o_iastc 144 10 60), (60, o_aload 0 61), (61, o_gRc 107 145 64), (64, o_aload 0 65), (65, o_gIc 107 65 68), (68, o_iload 2 69), (69, o_iastc 145 10 70), (70, o_aload 0 71), (71, o_gRc 107 146 74), (74, o_aload 0 75), (75, o_gIc 107 65 78), (78, o_iload 3 79), (79, oi_eq 86 82), (82, o_push (.int (1 : Int32)) 83), (83, o_goto 87), (86, o_push (.int (0 : Int32)) 87), (87, o_iastc 146 10 88), (88, o_aload 0 89), (89, o_aload 0 90), (90, o_gIc 107 65 93), (93, o_push (.int (1 : Int32)) 94), (94, o_iadd 95), (95, o_pIc 107 65 98), (98, o_aload 0 99), (99, o_gIc 107 65 102), (102, o_iret)]
set_option maxRecDepth 200000 in
theorem iX12_clue {l : Launch} {w : nW} {G : nG} (hG : n_GOK G) : n_AllS l w 1 mX12_clue G (n_fin dv_i G) (aX12_clue) :=
  n_c (s_aload_n (pc := 0) (k := 0) (by decide +kernel)) <|
  n_c (s_iconst (pc := 1) (n := 0) (by decide +kernel) (by decide +kernel)) <|
  n_c (s_pIc (s_putI (pc := 2) (ci := 12) (k := 0) (idx := 146) nok12 (by decide) rfl rfl (by decide +kernel) w_1407) (gk107 hG)) <|
  n_c (s_iload_n (pc := 5) (k := 1) (by decide +kernel)) <|
  n_c (s_iconst (pc := 6) (n := -1) (by decide +kernel) (by decide +kernel)) <|
  n_c (s_icmp_ne (pc := 7) (off := 10) (by decide +kernel) (by decide +kernel)) <|
  n_c (s_aload_n (pc := 10) (k := 0) (by decide +kernel)) <|
  n_c (s_iconst (pc := 11) (n := 0) (by decide +kernel) (by decide +kernel)) <|
  n_c (s_pIc (s_putI (pc := 12) (ci := 12) (k := 65) (idx := 490) nok12 (by decide) rfl rfl (by decide +kernel) w_1472) (gk107 hG)) <|
  n_c (s_iconst (pc := 15) (n := 0) (by decide +kernel) (by decide +kernel)) <|
  n_c (s_iret (pc := 16) rfl (by decide +kernel)) <|
  n_c (s_aload_n (pc := 17) (k := 0) (by decide +kernel)) <|
  n_c (s_iload_n (pc := 18) (k := 1) (by decide +kernel)) <|
  n_c (s_iconst (pc := 19) (n := 0) (by decide +kernel) (by decide +kernel)) <|
  n_c (s_bipush (pc := 20) (n := 7) (by decide +kernel) (by decide +kernel)) <|
  n_c (s_callVc (s_callV (pc := 22) (csX12_isIn) (by decide) okX12_isIn nok12 w_1659 w_46 w_1657 (by decide +kernel)) (gk107 hG)) <|
  n_c (s_if_eq (pc := 25) (off := 23) (by decide +kernel) (by decide +kernel)) <|
  n_c (s_aload_n (pc := 28) (k := 0) (by decide +kernel)) <|
  n_c (s_iload_n (pc := 29) (k := 2) (by decide +kernel)) <|
  n_c (s_iconst (pc := 30) (n := 0) (by decide +kernel) (by decide +kernel)) <|
  n_c (s_bipush (pc := 31) (n := 7) (by decide +kernel) (by decide +kernel)) <|
  n_c (s_callVc (s_callV (pc := 33) (csX12_isIn) (by decide) okX12_isIn nok12 w_1659 w_46 w_1657 (by decide +kernel)) (gk107 hG)) <|
  n_c (s_if_eq (pc := 36) (off := 12) (by decide +kernel) (by decide +kernel)) <|
  n_c (s_aload_n (pc := 39) (k := 0) (by decide +kernel)) <|
  n_c (s_gIc (s_getI (pc := 40) (ci := 12) (k := 65) (idx := 490) nok12 (by decide) rfl (by decide +kernel) w_1472) (gk107 hG)) <|
  n_c (s_bipush (pc := 43) (n := 10) (by decide +kernel) (by decide +kernel)) <|
  n_c (s_icmp_ne (pc := 45) (off := 5) (by decide +kernel) (by decide +kernel)) <|
  n_c (s_iconst (pc := 48) (n := -1) (by decide +kernel) (by decide +kernel)) <|
  n_c (s_iret (pc := 49) rfl (by decide +kernel)) <|
  n_c (s_aload_n (pc := 50) (k := 0) (by decide +kernel)) <|
  n_c (s_gRc (s_getR (pc := 51) (ci := 12) (k := 66) (idx := 122) nok12 (by decide) rfl (by decide +kernel) w_1473) (gk107 hG) (gm107_66 hG)) <|
  n_c (s_aload_n (pc := 54) (k := 0) (by decide +kernel)) <|
  n_c (s_gIc (s_getI (pc := 55) (ci := 12) (k := 65) (idx := 490) nok12 (by decide) rfl (by decide +kernel) w_1472) (gk107 hG)) <|
  n_c (s_iload_n (pc := 58) (k := 1) (by decide +kernel)) <|
  n_c (s_iastc (s_iastore (pc := 59) (by decide +kernel)) (gk144 hG) (gl144 hG)) <|
  n_c (s_aload_n (pc := 60) (k := 0) (by decide +kernel)) <|
  n_c (s_gRc (s_getR (pc := 61) (ci := 12) (k := 67) (idx := 125) nok12 (by decide) rfl (by decide +kernel) w_1474) (gk107 hG) (gm107_67 hG)) <|
  n_c (s_aload_n (pc := 64) (k := 0) (by decide +kernel)) <|
  n_c (s_gIc (s_getI (pc := 65) (ci := 12) (k := 65) (idx := 490) nok12 (by decide) rfl (by decide +kernel) w_1472) (gk107 hG)) <|
  n_c (s_iload_n (pc := 68) (k := 2) (by decide +kernel)) <|
  n_c (s_iastc (s_iastore (pc := 69) (by decide +kernel)) (gk145 hG) (gl145 hG)) <|
  n_c (s_aload_n (pc := 70) (k := 0) (by decide +kernel)) <|
  n_c (s_gRc (s_getR (pc := 71) (ci := 12) (k := 68) (idx := 128) nok12 (by decide) rfl (by decide +kernel) w_1475) (gk107 hG) (gm107_68 hG)) <|
  n_c (s_aload_n (pc := 74) (k := 0) (by decide +kernel)) <|
  n_c (s_gIc (s_getI (pc := 75) (ci := 12) (k := 65) (idx := 490) nok12 (by decide) rfl (by decide +kernel) w_1472) (gk107 hG)) <|
  n_c (s_iload_n (pc := 78) (k := 3) (by decide +kernel)) <|
  n_c (s_if_eq (pc := 79) (off := 7) (by decide +kernel) (by decide +kernel)) <|
  n_c (s_iconst (pc := 82) (n := 1) (by decide +kernel) (by decide +kernel)) <|
  n_c (s_goto (pc := 83) (off := 4) (by decide +kernel) (by decide +kernel)) <|
  n_c (s_iconst (pc := 86) (n := 0) (by decide +kernel) (by decide +kernel)) <|
  n_c (s_iastc (s_iastore (pc := 87) (by decide +kernel)) (gk146 hG) (gl146 hG)) <|
  n_c (s_aload_n (pc := 88) (k := 0) (by decide +kernel)) <|
  n_c (s_aload_n (pc := 89) (k := 0) (by decide +kernel)) <|
  n_c (s_gIc (s_getI (pc := 90) (ci := 12) (k := 65) (idx := 490) nok12 (by decide) rfl (by decide +kernel) w_1472) (gk107 hG)) <|
  n_c (s_iconst (pc := 93) (n := 1) (by decide +kernel) (by decide +kernel)) <|
  n_c (s_iadd (pc := 94) (by decide +kernel)) <|
  n_c (s_pIc (s_putI (pc := 95) (ci := 12) (k := 65) (idx := 490) nok12 (by decide) rfl rfl (by decide +kernel) w_1472) (gk107 hG)) <|
  n_c (s_aload_n (pc := 98) (k := 0) (by decide +kernel)) <|
  n_c (s_gIc (s_getI (pc := 99) (ci := 12) (k := 65) (idx := 490) nok12 (by decide) rfl (by decide +kernel) w_1472) (gk107 hG)) <|
  n_c (s_iret (pc := 102) rfl (by decide +kernel)) <|
  n_e
def fX12_clue_87 (s0 : Int32) (s1 : Int32) (M : nM) : Option (Int32 × nM) :=
  n_chk (n_ib 10 s1) <|
  let M1 : nM := n_up M 146 s1.toNatClampNeg s0
  let M2 : nM := n_up M1 107 65 ((M1 107 65) + (1 : Int32))
  some ((M2 107 65), M2)
set_option maxRecDepth 200000 in
theorem bX12_clue_87 {l : Launch} {w : nW} {G : nG} (hG : n_GOK G) (s0 : Int32) (s1 : Int32) (M : nM) (r : Int32 × nM) (h : fX12_clue_87 s0 s1 M = some r) : n_At l w 1 mX12_clue 87 [(0, .ref 107)] [.int s0, .int s1, .ref 146] (G, M) (dv_i r.1, (G, r.2)) :=
  n_seg (fin := n_fin dv_i G) (K := []) 13 (iX12_clue hG) n_ke (by rfl) h
def fX12_clue (x1 : Int32) (x2 : Int32) (x3 : Int32) (M : nM) : Option (Int32 × nM) :=
  let M1 : nM := n_up M 107 0 (0 : Int32)
  if ¬ x1 = (-1 : Int32) then
    (fX12_isIn x1 (0 : Int32) (7 : Int32) M1).bind fun p2 =>
    if p2.1 = 0 then
      some ((-1 : Int32), p2.2)
    else
      (fX12_isIn x2 (0 : Int32) (7 : Int32) p2.2).bind fun p3 =>
      if p3.1 = 0 then
        some ((-1 : Int32), p3.2)
      else
        if ¬ (p3.2 107 65) = (10 : Int32) then
          n_chk (n_ib 10 (p3.2 107 65)) <|
          let M4 : nM := n_up p3.2 144 (p3.2 107 65).toNatClampNeg x1
          n_chk (n_ib 10 (M4 107 65)) <|
          let M5 : nM := n_up M4 145 (M4 107 65).toNatClampNeg x2
          if x3 = 0 then
            fX12_clue_87 (0 : Int32) (M5 107 65) M5
          else
            fX12_clue_87 (1 : Int32) (M5 107 65) M5
        else
          some ((-1 : Int32), p3.2)
  else
    let M6 : nM := n_up M1 107 65 (0 : Int32)
    some ((0 : Int32), M6)
set_option maxRecDepth 200000 in
theorem bX12_clue_0 {l : Launch} {w : nW} {G : nG} (hG : n_GOK G) (x1 : Int32) (x2 : Int32) (x3 : Int32) (M : nM) (r : Int32 × nM) (h : fX12_clue x1 x2 x3 M = some r) : n_At l w 1 mX12_clue 0 [(0, .ref 107), (1, .int x1), (2, .int x2), (3, .int x3)] [] (G, M) (dv_i r.1, (G, r.2)) :=
  n_seg (fin := n_fin dv_i G) (K := [(87, fun lv st M => n_lC 107 lv 0 (n_pI st (fun s0 st => n_pI st (fun s1 st => n_pC 146 st (fun st => n_pE st (fX12_clue_87 s0 s1 M))))))]) 57 (iX12_clue hG) (n_kc (fun lv st M r h => by
      obtain ⟨e0, h1⟩ := n_lC_x h
      obtain ⟨s0, t0, rfl, h2⟩ := n_pI_x h1
      obtain ⟨s1, t1, rfl, h3⟩ := n_pI_x h2
      obtain ⟨t2, rfl, h4⟩ := n_pC_x h3
      obtain ⟨rfl, h5⟩ := n_pE_x h4
      exact n_sub (n_qc e0 n_qe) (bX12_clue_87 hG s0 s1 M r h5)) n_ke) (by rfl) h
theorem eX12_clue {l : Launch} {w : nW} {G : nG} (hG : n_GOK G) (z1 : Int32) (z2 : Int32) (z3 : Int32) (M : nM) (r : Int32 × nM) (h : fX12_clue z1 z2 z3 M = some r) : n_Met l w 1 mX12_clue [.ref 107, .int z1, .int z2, .int z3] (G, M) (dv_i r.1, (G, r.2)) :=
  n_entry (by decide +kernel) rfl (Nat.le_of_ble_eq_true rfl) (n_sub (lv := [(0, .ref 107), (1, .int z1), (2, .int z2), (3, .int z3)]) (n_qc rfl (n_qc rfl (n_qc rfl (n_qc rfl n_qe)))) (bX12_clue_0 hG z1 z2 z3 M r h))
abbrev hX12_clue : nF := fun T as M k => n_pC 107 as (fun as => n_pI as (fun z1 as => n_pI as (fun z2 as => n_pI as (fun z3 as => n_pE as ((fX12_clue z1 z2 z3 M).bind fun p => k (dv_i p.1) p.2)))))
theorem csX12_clue {l : Launch} {w : nW} {G : nG} (hG : n_GOK G) : n_CS l w 1 mX12_clue G (hX12_clue) := fun T as M k r h => by
  obtain ⟨t0, rfl, h1⟩ := n_pC_x h
  obtain ⟨z1, t1, rfl, h2⟩ := n_pI_x h1
  obtain ⟨z2, t2, rfl, h3⟩ := n_pI_x h2
  obtain ⟨z3, t3, rfl, h4⟩ := n_pI_x h3
  obtain ⟨rfl, hE⟩ := n_pE_x h4
  obtain ⟨p, hp, hk⟩ := Option.bind_eq_some_iff.mp hE
  exact ⟨_, _, eX12_clue hG z1 z2 z3 M p hp, hk⟩
/-! ===== SleightHouse$Thought.waysAllowed()I ===== -/
def mX9_waysAllowed : nY := (RX9, yX9_waysAllowed, cX9_waysAllowed, 6, some .int)
theorem okX9_waysAllowed : n_MOK mX9_waysAllowed 0 := ⟨w_1332, w_149, ⟨by decide +kernel, by decide +kernel, by decide +kernel⟩, by decide⟩
abbrev aX9_waysAllowed (N : Nat) (G : nG) : List (Nat × nO (Int32 × nM)) := [(0, o_aload 0 1), (1, o_gRc 98 99 4), (4, o_push (.int (0 : Int32)) 5), (5, o_call 2 (hJ7_fill_53178 N G) 8), (8, o_aload 0 9), (9, o_gRc 98 99 12), (12, o_push (.int (0 : Int32)) 13), (13, o_push (.int (1 : Int32)) 14), (14, o_iastc 99 256 15), (15, o_push (.int (255 : Int32)) 18), (18, o_istore 6 1 19), (19, o_push (.int (0 : Int32)) 20), (20, o_istore 6 2 21), (21, o_iload 2 22), (22, o_iload 1 23), (23, oc_ge 105 26), (26, o_iload 2 27), (27, o_call 1 (hJ6_bitCount_0f7a4) 30), (30, o_istore 6 3 31), (31, o_push (.int (0 : Int32)) 32), (32, o_istore 6 4 34), (34, o_iload 4 36), (36, o_push (.int (8 : Int32)) 38), (38, oc_ge 99 41), (41, o_aload 0 42), (42, o_gRc 98 99 45), (45, o_iload 2 46), (46, o_aldc 99 256 47), (47, oi_eq 99 50), (50, o_push (.int (1 : Int32)) 51), (51, o_iload 4 53), (53, o_ishl 54), (54, o_istore 6 5 56), (56, o_iload 2 57), (57, o_iload 5 59), (59, o_iand 60), (60, oi_ne 93 63), (63, o_aload 0 64), (64, o_gRc 98 100 67), (67, o_iload 3 68), (68, o_aldc 100 8 69), (69, o_iload 5 71), (71, o_iand 72), (72, oi_eq 93 75), (75, o_aload 0 76), (76, o_gRc 98 99 79), (79, o_iload 2 80), (80, o_iload 5 82), (82, o_ior 83), (83, o_dup2 84), (84, o_aldc 99 256 85), (85, o_aload 0 86), (86, o_gRc 98 99 89), (89, o_iload 2 90), (90, o_aldc 99 256 91), (91, o_iadd 92), (92, o_iastc 99 256 93), (93, o_inc 6 4 (1 : Int32) 96), (96, o_goto 34), (99, o_inc 6 2 (1 : Int32) 102), (102, o_goto 21), (105, o_aload 0 106), (106, o_gRc 98 99 109), (109, o_iload 1 110), (110, o_aldc 99 256 111), (111, o_iret)]
set_option maxRecDepth 200000 in
theorem iX9_waysAllowed {l : Launch} {w : nW} (N : Nat) {G : nG} (hG : n_GOK G) : n_AllS l w 1 mX9_waysAllowed G (n_fin dv_i G) (aX9_waysAllowed N G) :=
  n_c (s_aload_n (pc := 0) (k := 0) (by decide +kernel)) <|
  n_c (s_gRc (s_getR (pc := 1) (ci := 9) (k := 1) (idx := 9) nok9 (by decide) rfl (by decide +kernel) w_538) (gk98 hG) (gm98_1 hG)) <|
  n_c (s_iconst (pc := 4) (n := 0) (by decide +kernel) (by decide +kernel)) <|
  n_c (s_callS (pc := 5) (csJ7_fill_53178 N) (by decide) okJ7_fill_53178 w_180 w_1180 (by decide +kernel)) <|
  n_c (s_aload_n (pc := 8) (k := 0) (by decide +kernel)) <|
  n_c (s_gRc (s_getR (pc := 9) (ci := 9) (k := 1) (idx := 9) nok9 (by decide) rfl (by decide +kernel) w_538) (gk98 hG) (gm98_1 hG)) <|
  n_c (s_iconst (pc := 12) (n := 0) (by decide +kernel) (by decide +kernel)) <|
  n_c (s_iconst (pc := 13) (n := 1) (by decide +kernel) (by decide +kernel)) <|
  n_c (s_iastc (s_iastore (pc := 14) (by decide +kernel)) (gk99 hG) (gl99 hG)) <|
  n_c (s_sipush (pc := 15) (n := 255) (by decide +kernel) (by decide +kernel)) <|
  n_c (s_istore_n (pc := 18) (k := 1) (by decide +kernel)) <|
  n_c (s_iconst (pc := 19) (n := 0) (by decide +kernel) (by decide +kernel)) <|
  n_c (s_istore_n (pc := 20) (k := 2) (by decide +kernel)) <|
  n_c (s_iload_n (pc := 21) (k := 2) (by decide +kernel)) <|
  n_c (s_iload_n (pc := 22) (k := 1) (by decide +kernel)) <|
  n_c (s_icmp_ge (pc := 23) (off := 82) (by decide +kernel) (by decide +kernel)) <|
  n_c (s_iload_n (pc := 26) (k := 2) (by decide +kernel)) <|
  n_c (s_callS (pc := 27) (csJ6_bitCount_0f7a4) (by decide) okJ6_bitCount_0f7a4 w_1109 w_1333 (by decide +kernel)) <|
  n_c (s_istore_n (pc := 30) (k := 3) (by decide +kernel)) <|
  n_c (s_iconst (pc := 31) (n := 0) (by decide +kernel) (by decide +kernel)) <|
  n_c (s_istore (pc := 32) (by decide +kernel)) <|
  n_c (s_iload (pc := 34) (by decide +kernel)) <|
  n_c (s_bipush (pc := 36) (n := 8) (by decide +kernel) (by decide +kernel)) <|
  n_c (s_icmp_ge (pc := 38) (off := 61) (by decide +kernel) (by decide +kernel)) <|
  n_c (s_aload_n (pc := 41) (k := 0) (by decide +kernel)) <|
  n_c (s_gRc (s_getR (pc := 42) (ci := 9) (k := 1) (idx := 9) nok9 (by decide) rfl (by decide +kernel) w_538) (gk98 hG) (gm98_1 hG)) <|
  n_c (s_iload_n (pc := 45) (k := 2) (by decide +kernel)) <|
  n_c (s_aldc (s_iaload (pc := 46) (by decide +kernel)) (gk99 hG) (gl99 hG)) <|
  n_c (s_if_eq (pc := 47) (off := 52) (by decide +kernel) (by decide +kernel)) <|
  n_c (s_iconst (pc := 50) (n := 1) (by decide +kernel) (by decide +kernel)) <|
  n_c (s_iload (pc := 51) (by decide +kernel)) <|
  n_c (s_ishl (pc := 53) (by decide +kernel)) <|
  n_c (s_istore (pc := 54) (by decide +kernel)) <|
  n_c (s_iload_n (pc := 56) (k := 2) (by decide +kernel)) <|
  n_c (s_iload (pc := 57) (by decide +kernel)) <|
  n_c (s_iand (pc := 59) (by decide +kernel)) <|
  n_c (s_if_ne (pc := 60) (off := 33) (by decide +kernel) (by decide +kernel)) <|
  n_c (s_aload_n (pc := 63) (k := 0) (by decide +kernel)) <|
  n_c (s_gRc (s_getR (pc := 64) (ci := 9) (k := 2) (idx := 15) nok9 (by decide) rfl (by decide +kernel) w_539) (gk98 hG) (gm98_2 hG)) <|
  n_c (s_iload_n (pc := 67) (k := 3) (by decide +kernel)) <|
  n_c (s_aldc (s_iaload (pc := 68) (by decide +kernel)) (gk100 hG) (gl100 hG)) <|
  n_c (s_iload (pc := 69) (by decide +kernel)) <|
  n_c (s_iand (pc := 71) (by decide +kernel)) <|
  n_c (s_if_eq (pc := 72) (off := 21) (by decide +kernel) (by decide +kernel)) <|
  n_c (s_aload_n (pc := 75) (k := 0) (by decide +kernel)) <|
  n_c (s_gRc (s_getR (pc := 76) (ci := 9) (k := 1) (idx := 9) nok9 (by decide) rfl (by decide +kernel) w_538) (gk98 hG) (gm98_1 hG)) <|
  n_c (s_iload_n (pc := 79) (k := 2) (by decide +kernel)) <|
  n_c (s_iload (pc := 80) (by decide +kernel)) <|
  n_c (s_ior (pc := 82) (by decide +kernel)) <|
  n_c (s_dup2 (pc := 83) (by decide +kernel)) <|
  n_c (s_aldc (s_iaload (pc := 84) (by decide +kernel)) (gk99 hG) (gl99 hG)) <|
  n_c (s_aload_n (pc := 85) (k := 0) (by decide +kernel)) <|
  n_c (s_gRc (s_getR (pc := 86) (ci := 9) (k := 1) (idx := 9) nok9 (by decide) rfl (by decide +kernel) w_538) (gk98 hG) (gm98_1 hG)) <|
  n_c (s_iload_n (pc := 89) (k := 2) (by decide +kernel)) <|
  n_c (s_aldc (s_iaload (pc := 90) (by decide +kernel)) (gk99 hG) (gl99 hG)) <|
  n_c (s_iadd (pc := 91) (by decide +kernel)) <|
  n_c (s_iastc (s_iastore (pc := 92) (by decide +kernel)) (gk99 hG) (gl99 hG)) <|
  n_c (s_iinc (pc := 93) (n := 1) (by decide +kernel) (by decide +kernel)) <|
  n_c (s_goto (pc := 96) (off := -62) (by decide +kernel) (by decide +kernel)) <|
  n_c (s_iinc (pc := 99) (n := 1) (by decide +kernel) (by decide +kernel)) <|
  n_c (s_goto (pc := 102) (off := -81) (by decide +kernel) (by decide +kernel)) <|
  n_c (s_aload_n (pc := 105) (k := 0) (by decide +kernel)) <|
  n_c (s_gRc (s_getR (pc := 106) (ci := 9) (k := 1) (idx := 9) nok9 (by decide) rfl (by decide +kernel) w_538) (gk98 hG) (gm98_1 hG)) <|
  n_c (s_iload_n (pc := 109) (k := 1) (by decide +kernel)) <|
  n_c (s_aldc (s_iaload (pc := 110) (by decide +kernel)) (gk99 hG) (gl99 hG)) <|
  n_c (s_iret (pc := 111) rfl (by decide +kernel)) <|
  n_e
def fX9_waysAllowed_34 (N : Nat) (G : nG) (k21 : Int32 → Int32 → nM → Option (Int32 × nM)) : Nat → Int32 → Int32 → Int32 → Int32 → nM → Option (Int32 × nM)
  | 0, _, _, _, _, _ => none
  | n + 1, x1, x2, x3, x4, M =>
    if (8 : Int32) ≤ x4 then
      let v1 : Int32 := (x2 + (1 : Int32))
      k21 x1 v1 M
    else
      n_chk (n_ib 256 x2) <|
      if (M 99 x2.toNatClampNeg) = 0 then
        let v2 : Int32 := (x2 + (1 : Int32))
        k21 x1 v2 M
      else
        let v3 : Int32 := ((1 : Int32) <<< (x4 &&& 31))
        if ¬ (x2 &&& v3) = 0 then
          let v4 : Int32 := (x4 + (1 : Int32))
          fX9_waysAllowed_34 N G k21 n x1 x2 x3 v4 M
        else
          n_chk (n_ib 8 x3) <|
          if ((M 100 x3.toNatClampNeg) &&& v3) = 0 then
            let v5 : Int32 := (x4 + (1 : Int32))
            fX9_waysAllowed_34 N G k21 n x1 x2 x3 v5 M
          else
            n_chk (n_ib 256 (x2 ||| v3)) <|
            n_chk (n_ib 256 x2) <|
            n_chk (n_ib 256 (x2 ||| v3)) <|
            let M6 : nM := n_up M 99 (x2 ||| v3).toNatClampNeg ((M 99 (x2 ||| v3).toNatClampNeg) + (M 99 x2.toNatClampNeg))
            let v7 : Int32 := (x4 + (1 : Int32))
            fX9_waysAllowed_34 N G k21 n x1 x2 x3 v7 M6
set_option maxRecDepth 200000 in
theorem bX9_waysAllowed_34 {l : Launch} {w : nW} (N : Nat) {G : nG} (hG : n_GOK G) (k21 : Int32 → Int32 → nM → Option (Int32 × nM)) (hk21 : ∀ (x1 : Int32) (x2 : Int32) (M : nM) (r : Int32 × nM), k21 x1 x2 M = some r → n_At l w 1 mX9_waysAllowed 21 [(0, .ref 98), (1, .int x1), (2, .int x2)] [] (G, M) (dv_i r.1, (G, r.2))) : ∀ (n : Nat) (x1 : Int32) (x2 : Int32) (x3 : Int32) (x4 : Int32) (M : nM) (r : Int32 × nM), fX9_waysAllowed_34 N G k21 n x1 x2 x3 x4 M = some r → n_At l w 1 mX9_waysAllowed 34 [(0, .ref 98), (1, .int x1), (2, .int x2), (3, .int x3), (4, .int x4)] [] (G, M) (dv_i r.1, (G, r.2)) := by
  intro n
  induction n with
  | zero => intro x1 x2 x3 x4 M r h; cases (show (none : Option (Int32 × nM)) = some r from h)
  | succ n ih =>
    intro x1 x2 x3 x4 M r h
    exact n_seg (fin := n_fin dv_i G) (K := [(21, fun lv st M => n_lC 98 lv 0 (n_lI lv 1 (fun x1 => n_lI lv 2 (fun x2 => n_pE st (k21 x1 x2 M))))), (34, fun lv st M => n_lC 98 lv 0 (n_lI lv 1 (fun x1 => n_lI lv 2 (fun x2 => n_lI lv 3 (fun x3 => n_lI lv 4 (fun x4 => n_pE st (fX9_waysAllowed_34 N G k21 n x1 x2 x3 x4 M)))))))]) 49 (iX9_waysAllowed N hG) (n_kc (fun lv st M r h => by
      obtain ⟨e0, h1⟩ := n_lC_x h
      obtain ⟨x1, e1, h2⟩ := n_lI_x h1
      obtain ⟨x2, e2, h3⟩ := n_lI_x h2
      obtain ⟨rfl, h4⟩ := n_pE_x h3
      exact n_sub (n_qc e0 (n_qc e1 (n_qc e2 n_qe))) (hk21 x1 x2 M r h4)) (n_kc (fun lv st M r h => by
      obtain ⟨e0, h1⟩ := n_lC_x h
      obtain ⟨x1, e1, h2⟩ := n_lI_x h1
      obtain ⟨x2, e2, h3⟩ := n_lI_x h2
      obtain ⟨x3, e3, h4⟩ := n_lI_x h3
      obtain ⟨x4, e4, h5⟩ := n_lI_x h4
      obtain ⟨rfl, h6⟩ := n_pE_x h5
      exact n_sub (n_qc e0 (n_qc e1 (n_qc e2 (n_qc e3 (n_qc e4 n_qe))))) (ih x1 x2 x3 x4 M r h6)) n_ke)) (by rfl) h
def fX9_waysAllowed_21 (N : Nat) (G : nG) : Nat → Int32 → Int32 → nM → Option (Int32 × nM)
  | 0, _, _, _ => none
  | n + 1, x1, x2, M =>
    if x1 ≤ x2 then
      n_chk (n_ib 256 x1) <|
      some ((M 99 x1.toNatClampNeg), M)
    else
      (fJ6_bitCount_0f7a4 x2 M).bind fun p1 =>
      fX9_waysAllowed_34 N G (fun x1 x2 M => fX9_waysAllowed_21 N G n x1 x2 M) N x1 x2 p1.1 (0 : Int32) p1.2
set_option maxRecDepth 200000 in
theorem bX9_waysAllowed_21 {l : Launch} {w : nW} (N : Nat) {G : nG} (hG : n_GOK G) : ∀ (n : Nat) (x1 : Int32) (x2 : Int32) (M : nM) (r : Int32 × nM), fX9_waysAllowed_21 N G n x1 x2 M = some r → n_At l w 1 mX9_waysAllowed 21 [(0, .ref 98), (1, .int x1), (2, .int x2)] [] (G, M) (dv_i r.1, (G, r.2)) := by
  intro n
  induction n with
  | zero => intro x1 x2 M r h; cases (show (none : Option (Int32 × nM)) = some r from h)
  | succ n ih =>
    intro x1 x2 M r h
    exact n_seg (fin := n_fin dv_i G) (K := [(34, fun lv st M => n_lC 98 lv 0 (n_lI lv 1 (fun x1 => n_lI lv 2 (fun x2 => n_lI lv 3 (fun x3 => n_lI lv 4 (fun x4 => n_pE st (fX9_waysAllowed_34 N G (fun x1 x2 M => fX9_waysAllowed_21 N G n x1 x2 M) N x1 x2 x3 x4 M)))))))]) 16 (iX9_waysAllowed N hG) (n_kc (fun lv st M r h => by
      obtain ⟨e0, h1⟩ := n_lC_x h
      obtain ⟨x1, e1, h2⟩ := n_lI_x h1
      obtain ⟨x2, e2, h3⟩ := n_lI_x h2
      obtain ⟨x3, e3, h4⟩ := n_lI_x h3
      obtain ⟨x4, e4, h5⟩ := n_lI_x h4
      obtain ⟨rfl, h6⟩ := n_pE_x h5
      exact n_sub (n_qc e0 (n_qc e1 (n_qc e2 (n_qc e3 (n_qc e4 n_qe))))) (bX9_waysAllowed_34 N hG (fun x1 x2 M => fX9_waysAllowed_21 N G n x1 x2 M) ih N x1 x2 x3 x4 M r h6)) n_ke) (by rfl) h
def fX9_waysAllowed (N : Nat) (G : nG) (M : nM) : Option (Int32 × nM) :=
  (fJ7_fill_53178 N G 99 (0 : Int32) M).bind fun p1 =>
  n_chk (n_ib 256 (0 : Int32)) <|
  let M2 : nM := n_up p1.2 99 (0 : Int32).toNatClampNeg (1 : Int32)
  fX9_waysAllowed_21 N G N (255 : Int32) (0 : Int32) M2
set_option maxRecDepth 200000 in
theorem bX9_waysAllowed_0 {l : Launch} {w : nW} (N : Nat) {G : nG} (hG : n_GOK G) (M : nM) (r : Int32 × nM) (h : fX9_waysAllowed N G M = some r) : n_At l w 1 mX9_waysAllowed 0 [(0, .ref 98)] [] (G, M) (dv_i r.1, (G, r.2)) :=
  n_seg (fin := n_fin dv_i G) (K := [(21, fun lv st M => n_lC 98 lv 0 (n_lI lv 1 (fun x1 => n_lI lv 2 (fun x2 => n_pE st (fX9_waysAllowed_21 N G N x1 x2 M)))))]) 16 (iX9_waysAllowed N hG) (n_kc (fun lv st M r h => by
      obtain ⟨e0, h1⟩ := n_lC_x h
      obtain ⟨x1, e1, h2⟩ := n_lI_x h1
      obtain ⟨x2, e2, h3⟩ := n_lI_x h2
      obtain ⟨rfl, h4⟩ := n_pE_x h3
      exact n_sub (n_qc e0 (n_qc e1 (n_qc e2 n_qe))) (bX9_waysAllowed_21 N hG N x1 x2 M r h4)) n_ke) (by rfl) h
theorem eX9_waysAllowed {l : Launch} {w : nW} (N : Nat) {G : nG} (hG : n_GOK G) (M : nM) (r : Int32 × nM) (h : fX9_waysAllowed N G M = some r) : n_Met l w 1 mX9_waysAllowed [.ref 98] (G, M) (dv_i r.1, (G, r.2)) :=
  n_entry (by decide +kernel) rfl (Nat.le_of_ble_eq_true rfl) (n_sub (lv := [(0, .ref 98)]) (n_qc rfl n_qe) (bX9_waysAllowed_0 N hG M r h))
abbrev hX9_waysAllowed (N : Nat) (G : nG) : nF := fun T as M k => n_pC 98 as (fun as => n_pE as ((fX9_waysAllowed N G M).bind fun p => k (dv_i p.1) p.2))
theorem csX9_waysAllowed {l : Launch} {w : nW} (N : Nat) {G : nG} (hG : n_GOK G) : n_CS l w 1 mX9_waysAllowed G (hX9_waysAllowed N G) := fun T as M k r h => by
  obtain ⟨t0, rfl, h1⟩ := n_pC_x h
  obtain ⟨rfl, hE⟩ := n_pE_x h1
  obtain ⟨p, hp, hk⟩ := Option.bind_eq_some_iff.mp hE
  exact ⟨_, _, eX9_waysAllowed N hG M p hp, hk⟩
/-! ===== SleightHouse$Thought.waysToFit(II)I ===== -/
def mX9_waysToFit : nY := (RX9, yX9_waysToFit, cX9_waysToFit, 6, some .int)
theorem okX9_waysToFit : n_MOK mX9_waysToFit 2 := ⟨w_1328, w_149, ⟨by decide +kernel, by decide +kernel, by decide +kernel⟩, by decide⟩
abbrev aX9_waysToFit (N : Nat) (G : nG) : List (Nat × nO (Int32 × nM)) := [(0, o_aload 0 1), (1, o_gRc 98 100 4), (4, o_push (.int (255 : Int32)) 7), (7, o_call 2 (hJ7_fill_53178 N G) 10), (10, o_push (.int (0 : Int32)) 11), (11, o_istore 6 3 12), (12, o_iload 3 13), (13, o_aload 0 14), (14, o_gRc 98 28 17), (17, o_gRc 28 37 20), (20, o_gIc 37 3 23), (23, oc_ge 109 26), (26, o_aload 0 27), (27, o_gRc 98 28 30), (30, o_gRc 28 37 33), (33, o_iload 3 34), (34, o_push (.int (0 : Int32)) 35), (35, o_callVc 37 2 (hX7_cell G) 38), (38, o_istore 6 4 40), (40, o_push (.int (1 : Int32)) 41), (41, o_aload 0 42), (42, o_gRc 98 28 45), (45, o_gRc 28 37 48), (48, o_iload 3 49), (49, o_push (.int (1 : Int32)) 50), (50, o_callVc 37 2 (hX7_cell G) 53), (53, o_ishl 54), (54, o_istore 6 5 56), (56, o_iload 4 58), (58, oi_lt 103 61), (61, o_iload 4 63), (63, o_push (.int (8 : Int32)) 65), (65, oc_ge 103 68), (68, o_aload 0 69), (69, o_gRc 98 100 72), (72, o_iload 4 74), (74, o_dup2 75), (75, o_aldc 100 8 76), (76, o_aload 0 77), (77, o_gRc 98 28 80), (80, o_gRc 28 37 83), (83, o_iload 3 84), (84, o_push (.int (2 : Int32)) 85), (85, o_callVc 37 2 (hX7_cell G) 88), (88, o_push (.int (1 : Int32)) 89), (89, oc_ne 97 92), (92, o_iload 5 94), (94, o_goto 101), (97, o_iload 5 99), (99, o_push (.int (-1 : Int32)) 100), (100, o_ixor 101), (101, o_iand 102), (102, o_iastc 100 8 103), (103, o_inc 6 3 (1 : Int32) 106), (106, o_goto 12), (109, o_iload 1 110), (110, oi_lt 131 113), (113, o_iload 1 114), (114, o_push (.int (8 : Int32)) 116), (116, oc_ge 131 119), (119, o_aload 0 120), (120, o_gRc 98 100 123), (123, o_iload 1 124), (124, o_dup2 125), (125, o_aldc 100 8 126), (126, o_push (.int (1 : Int32)) 127), (127, o_iload 2 128), (128, o_ishl 129), (129, o_iand 130), (130, o_iastc 100 8 131), (131, o_aload 0 132), (132, o_callVc 98 0 (hX9_waysAllowed N G) 135), (135, o_iret)]
set_option maxRecDepth 200000 in
theorem iX9_waysToFit {l : Launch} {w : nW} (N : Nat) {G : nG} (hG : n_GOK G) : n_AllS l w 2 mX9_waysToFit G (n_fin dv_i G) (aX9_waysToFit N G) :=
  n_c (s_aload_n (pc := 0) (k := 0) (by decide +kernel)) <|
  n_c (s_gRc (s_getR (pc := 1) (ci := 9) (k := 2) (idx := 15) nok9 (by decide) rfl (by decide +kernel) w_539) (gk98 hG) (gm98_2 hG)) <|
  n_c (s_sipush (pc := 4) (n := 255) (by decide +kernel) (by decide +kernel)) <|
  n_c (s_callS (pc := 7) (csJ7_fill_53178 N) (by decide) okJ7_fill_53178 w_180 w_1180 (by decide +kernel)) <|
  n_c (s_iconst (pc := 10) (n := 0) (by decide +kernel) (by decide +kernel)) <|
  n_c (s_istore_n (pc := 11) (k := 3) (by decide +kernel)) <|
  n_c (s_iload_n (pc := 12) (k := 3) (by decide +kernel)) <|
  n_c (s_aload_n (pc := 13) (k := 0) (by decide +kernel)) <|
  n_c (s_gRc (s_getR (pc := 14) (ci := 9) (k := 0) (idx := 18) nok9 (by decide) rfl (by decide +kernel) w_537) (gk98 hG) (gm98_0 hG)) <|
  n_c (s_gRc (s_getR (pc := 17) (ci := 10) (k := 4) (idx := 89) nok10 (by decide) rfl (by decide +kernel) w_370) (gk28 hG) (gm28_4 hG)) <|
  n_c (s_gIc (s_getI (pc := 20) (ci := 7) (k := 3) (idx := 28) nok7 (by decide) rfl (by decide +kernel) w_304) (gk37 hG)) <|
  n_c (s_icmp_ge (pc := 23) (off := 86) (by decide +kernel) (by decide +kernel)) <|
  n_c (s_aload_n (pc := 26) (k := 0) (by decide +kernel)) <|
  n_c (s_gRc (s_getR (pc := 27) (ci := 9) (k := 0) (idx := 18) nok9 (by decide) rfl (by decide +kernel) w_537) (gk98 hG) (gm98_0 hG)) <|
  n_c (s_gRc (s_getR (pc := 30) (ci := 10) (k := 4) (idx := 89) nok10 (by decide) rfl (by decide +kernel) w_370) (gk28 hG) (gm28_4 hG)) <|
  n_c (s_iload_n (pc := 33) (k := 3) (by decide +kernel)) <|
  n_c (s_iconst (pc := 34) (n := 0) (by decide +kernel) (by decide +kernel)) <|
  n_c (s_callVc (s_callV (pc := 35) (csX7_cell) (by decide) okX7_cell nok7 w_786 w_787 w_1145 (by decide +kernel)) (gk37 hG)) <|
  n_c (s_istore (pc := 38) (by decide +kernel)) <|
  n_c (s_iconst (pc := 40) (n := 1) (by decide +kernel) (by decide +kernel)) <|
  n_c (s_aload_n (pc := 41) (k := 0) (by decide +kernel)) <|
  n_c (s_gRc (s_getR (pc := 42) (ci := 9) (k := 0) (idx := 18) nok9 (by decide) rfl (by decide +kernel) w_537) (gk98 hG) (gm98_0 hG)) <|
  n_c (s_gRc (s_getR (pc := 45) (ci := 10) (k := 4) (idx := 89) nok10 (by decide) rfl (by decide +kernel) w_370) (gk28 hG) (gm28_4 hG)) <|
  n_c (s_iload_n (pc := 48) (k := 3) (by decide +kernel)) <|
  n_c (s_iconst (pc := 49) (n := 1) (by decide +kernel) (by decide +kernel)) <|
  n_c (s_callVc (s_callV (pc := 50) (csX7_cell) (by decide) okX7_cell nok7 w_786 w_787 w_1145 (by decide +kernel)) (gk37 hG)) <|
  n_c (s_ishl (pc := 53) (by decide +kernel)) <|
  n_c (s_istore (pc := 54) (by decide +kernel)) <|
  n_c (s_iload (pc := 56) (by decide +kernel)) <|
  n_c (s_if_lt (pc := 58) (off := 45) (by decide +kernel) (by decide +kernel)) <|
  n_c (s_iload (pc := 61) (by decide +kernel)) <|
  n_c (s_bipush (pc := 63) (n := 8) (by decide +kernel) (by decide +kernel)) <|
  n_c (s_icmp_ge (pc := 65) (off := 38) (by decide +kernel) (by decide +kernel)) <|
  n_c (s_aload_n (pc := 68) (k := 0) (by decide +kernel)) <|
  n_c (s_gRc (s_getR (pc := 69) (ci := 9) (k := 2) (idx := 15) nok9 (by decide) rfl (by decide +kernel) w_539) (gk98 hG) (gm98_2 hG)) <|
  n_c (s_iload (pc := 72) (by decide +kernel)) <|
  n_c (s_dup2 (pc := 74) (by decide +kernel)) <|
  n_c (s_aldc (s_iaload (pc := 75) (by decide +kernel)) (gk100 hG) (gl100 hG)) <|
  n_c (s_aload_n (pc := 76) (k := 0) (by decide +kernel)) <|
  n_c (s_gRc (s_getR (pc := 77) (ci := 9) (k := 0) (idx := 18) nok9 (by decide) rfl (by decide +kernel) w_537) (gk98 hG) (gm98_0 hG)) <|
  n_c (s_gRc (s_getR (pc := 80) (ci := 10) (k := 4) (idx := 89) nok10 (by decide) rfl (by decide +kernel) w_370) (gk28 hG) (gm28_4 hG)) <|
  n_c (s_iload_n (pc := 83) (k := 3) (by decide +kernel)) <|
  n_c (s_iconst (pc := 84) (n := 2) (by decide +kernel) (by decide +kernel)) <|
  n_c (s_callVc (s_callV (pc := 85) (csX7_cell) (by decide) okX7_cell nok7 w_786 w_787 w_1145 (by decide +kernel)) (gk37 hG)) <|
  n_c (s_iconst (pc := 88) (n := 1) (by decide +kernel) (by decide +kernel)) <|
  n_c (s_icmp_ne (pc := 89) (off := 8) (by decide +kernel) (by decide +kernel)) <|
  n_c (s_iload (pc := 92) (by decide +kernel)) <|
  n_c (s_goto (pc := 94) (off := 7) (by decide +kernel) (by decide +kernel)) <|
  n_c (s_iload (pc := 97) (by decide +kernel)) <|
  n_c (s_iconst (pc := 99) (n := -1) (by decide +kernel) (by decide +kernel)) <|
  n_c (s_ixor (pc := 100) (by decide +kernel)) <|
  n_c (s_iand (pc := 101) (by decide +kernel)) <|
  n_c (s_iastc (s_iastore (pc := 102) (by decide +kernel)) (gk100 hG) (gl100 hG)) <|
  n_c (s_iinc (pc := 103) (n := 1) (by decide +kernel) (by decide +kernel)) <|
  n_c (s_goto (pc := 106) (off := -94) (by decide +kernel) (by decide +kernel)) <|
  n_c (s_iload_n (pc := 109) (k := 1) (by decide +kernel)) <|
  n_c (s_if_lt (pc := 110) (off := 21) (by decide +kernel) (by decide +kernel)) <|
  n_c (s_iload_n (pc := 113) (k := 1) (by decide +kernel)) <|
  n_c (s_bipush (pc := 114) (n := 8) (by decide +kernel) (by decide +kernel)) <|
  n_c (s_icmp_ge (pc := 116) (off := 15) (by decide +kernel) (by decide +kernel)) <|
  n_c (s_aload_n (pc := 119) (k := 0) (by decide +kernel)) <|
  n_c (s_gRc (s_getR (pc := 120) (ci := 9) (k := 2) (idx := 15) nok9 (by decide) rfl (by decide +kernel) w_539) (gk98 hG) (gm98_2 hG)) <|
  n_c (s_iload_n (pc := 123) (k := 1) (by decide +kernel)) <|
  n_c (s_dup2 (pc := 124) (by decide +kernel)) <|
  n_c (s_aldc (s_iaload (pc := 125) (by decide +kernel)) (gk100 hG) (gl100 hG)) <|
  n_c (s_iconst (pc := 126) (n := 1) (by decide +kernel) (by decide +kernel)) <|
  n_c (s_iload_n (pc := 127) (k := 2) (by decide +kernel)) <|
  n_c (s_ishl (pc := 128) (by decide +kernel)) <|
  n_c (s_iand (pc := 129) (by decide +kernel)) <|
  n_c (s_iastc (s_iastore (pc := 130) (by decide +kernel)) (gk100 hG) (gl100 hG)) <|
  n_c (s_aload_n (pc := 131) (k := 0) (by decide +kernel)) <|
  n_c (s_callVc (s_callV (pc := 132) (csX9_waysAllowed N hG) (by decide) okX9_waysAllowed nok9 w_1331 w_44 w_1329 (by decide +kernel)) (gk98 hG)) <|
  n_c (s_iret (pc := 135) rfl (by decide +kernel)) <|
  n_e
def fX9_waysToFit_131 (N : Nat) (G : nG) (M : nM) : Option (Int32 × nM) :=
  (fX9_waysAllowed N G M).bind fun p1 =>
  some (p1.1, p1.2)
set_option maxRecDepth 200000 in
theorem bX9_waysToFit_131 {l : Launch} {w : nW} (N : Nat) {G : nG} (hG : n_GOK G) (M : nM) (r : Int32 × nM) (h : fX9_waysToFit_131 N G M = some r) : n_At l w 2 mX9_waysToFit 131 [(0, .ref 98)] [] (G, M) (dv_i r.1, (G, r.2)) :=
  n_seg (fin := n_fin dv_i G) (K := []) 6 (iX9_waysToFit N hG) n_ke (by rfl) h
def fX9_waysToFit_12 (N : Nat) (G : nG) : Nat → Int32 → Int32 → Int32 → nM → Option (Int32 × nM)
  | 0, _, _, _, _ => none
  | n + 1, x1, x2, x3, M =>
    if (M 37 3) ≤ x3 then
      if x1 < 0 then
        fX9_waysToFit_131 N G M
      else
        if (8 : Int32) ≤ x1 then
          fX9_waysToFit_131 N G M
        else
          n_chk (n_ib 8 x1) <|
          n_chk (n_ib 8 x1) <|
          let M1 : nM := n_up M 100 x1.toNatClampNeg ((M 100 x1.toNatClampNeg) &&& ((1 : Int32) <<< (x2 &&& 31)))
          fX9_waysToFit_131 N G M1
    else
      (fX7_cell G 37 x3 (0 : Int32) M).bind fun p2 =>
      (fX7_cell G 37 x3 (1 : Int32) p2.2).bind fun p3 =>
      let v4 : Int32 := ((1 : Int32) <<< (p3.1 &&& 31))
      if p2.1 < 0 then
        let v5 : Int32 := (x3 + (1 : Int32))
        fX9_waysToFit_12 N G n x1 x2 v5 p3.2
      else
        if (8 : Int32) ≤ p2.1 then
          let v6 : Int32 := (x3 + (1 : Int32))
          fX9_waysToFit_12 N G n x1 x2 v6 p3.2
        else
          n_chk (n_ib 8 p2.1) <|
          (fX7_cell G 37 x3 (2 : Int32) p3.2).bind fun p7 =>
          if ¬ p7.1 = (1 : Int32) then
            n_chk (n_ib 8 p2.1) <|
            let M8 : nM := n_up p7.2 100 p2.1.toNatClampNeg ((p3.2 100 p2.1.toNatClampNeg) &&& (v4 ^^^ (-1 : Int32)))
            let v9 : Int32 := (x3 + (1 : Int32))
            fX9_waysToFit_12 N G n x1 x2 v9 M8
          else
            n_chk (n_ib 8 p2.1) <|
            let M10 : nM := n_up p7.2 100 p2.1.toNatClampNeg ((p3.2 100 p2.1.toNatClampNeg) &&& v4)
            let v11 : Int32 := (x3 + (1 : Int32))
            fX9_waysToFit_12 N G n x1 x2 v11 M10
set_option maxRecDepth 200000 in
theorem bX9_waysToFit_12 {l : Launch} {w : nW} (N : Nat) {G : nG} (hG : n_GOK G) : ∀ (n : Nat) (x1 : Int32) (x2 : Int32) (x3 : Int32) (M : nM) (r : Int32 × nM), fX9_waysToFit_12 N G n x1 x2 x3 M = some r → n_At l w 2 mX9_waysToFit 12 [(0, .ref 98), (1, .int x1), (2, .int x2), (3, .int x3)] [] (G, M) (dv_i r.1, (G, r.2)) := by
  intro n
  induction n with
  | zero => intro x1 x2 x3 M r h; cases (show (none : Option (Int32 × nM)) = some r from h)
  | succ n ih =>
    intro x1 x2 x3 M r h
    exact n_seg (fin := n_fin dv_i G) (K := [(12, fun lv st M => n_lC 98 lv 0 (n_lI lv 1 (fun x1 => n_lI lv 2 (fun x2 => n_lI lv 3 (fun x3 => n_pE st (fX9_waysToFit_12 N G n x1 x2 x3 M)))))), (131, fun lv st M => n_lC 98 lv 0 (n_pE st (fX9_waysToFit_131 N G M)))]) 75 (iX9_waysToFit N hG) (n_kc (fun lv st M r h => by
      obtain ⟨e0, h1⟩ := n_lC_x h
      obtain ⟨x1, e1, h2⟩ := n_lI_x h1
      obtain ⟨x2, e2, h3⟩ := n_lI_x h2
      obtain ⟨x3, e3, h4⟩ := n_lI_x h3
      obtain ⟨rfl, h5⟩ := n_pE_x h4
      exact n_sub (n_qc e0 (n_qc e1 (n_qc e2 (n_qc e3 n_qe)))) (ih x1 x2 x3 M r h5)) (n_kc (fun lv st M r h => by
      obtain ⟨e0, h1⟩ := n_lC_x h
      obtain ⟨rfl, h2⟩ := n_pE_x h1
      exact n_sub (n_qc e0 n_qe) (bX9_waysToFit_131 N hG M r h2)) n_ke)) (by rfl) h
def fX9_waysToFit (N : Nat) (G : nG) (x1 : Int32) (x2 : Int32) (M : nM) : Option (Int32 × nM) :=
  (fJ7_fill_53178 N G 100 (255 : Int32) M).bind fun p1 =>
  fX9_waysToFit_12 N G N x1 x2 (0 : Int32) p1.2
set_option maxRecDepth 200000 in
theorem bX9_waysToFit_0 {l : Launch} {w : nW} (N : Nat) {G : nG} (hG : n_GOK G) (x1 : Int32) (x2 : Int32) (M : nM) (r : Int32 × nM) (h : fX9_waysToFit N G x1 x2 M = some r) : n_At l w 2 mX9_waysToFit 0 [(0, .ref 98), (1, .int x1), (2, .int x2)] [] (G, M) (dv_i r.1, (G, r.2)) :=
  n_seg (fin := n_fin dv_i G) (K := [(12, fun lv st M => n_lC 98 lv 0 (n_lI lv 1 (fun x1 => n_lI lv 2 (fun x2 => n_lI lv 3 (fun x3 => n_pE st (fX9_waysToFit_12 N G N x1 x2 x3 M))))))]) 9 (iX9_waysToFit N hG) (n_kc (fun lv st M r h => by
      obtain ⟨e0, h1⟩ := n_lC_x h
      obtain ⟨x1, e1, h2⟩ := n_lI_x h1
      obtain ⟨x2, e2, h3⟩ := n_lI_x h2
      obtain ⟨x3, e3, h4⟩ := n_lI_x h3
      obtain ⟨rfl, h5⟩ := n_pE_x h4
      exact n_sub (n_qc e0 (n_qc e1 (n_qc e2 (n_qc e3 n_qe)))) (bX9_waysToFit_12 N hG N x1 x2 x3 M r h5)) n_ke) (by rfl) h
theorem eX9_waysToFit {l : Launch} {w : nW} (N : Nat) {G : nG} (hG : n_GOK G) (z1 : Int32) (z2 : Int32) (M : nM) (r : Int32 × nM) (h : fX9_waysToFit N G z1 z2 M = some r) : n_Met l w 2 mX9_waysToFit [.ref 98, .int z1, .int z2] (G, M) (dv_i r.1, (G, r.2)) :=
  n_entry (by decide +kernel) rfl (Nat.le_of_ble_eq_true rfl) (n_sub (lv := [(0, .ref 98), (1, .int z1), (2, .int z2)]) (n_qc rfl (n_qc rfl (n_qc rfl n_qe))) (bX9_waysToFit_0 N hG z1 z2 M r h))
abbrev hX9_waysToFit (N : Nat) (G : nG) : nF := fun T as M k => n_pC 98 as (fun as => n_pI as (fun z1 as => n_pI as (fun z2 as => n_pE as ((fX9_waysToFit N G z1 z2 M).bind fun p => k (dv_i p.1) p.2))))
theorem csX9_waysToFit {l : Launch} {w : nW} (N : Nat) {G : nG} (hG : n_GOK G) : n_CS l w 2 mX9_waysToFit G (hX9_waysToFit N G) := fun T as M k r h => by
  obtain ⟨t0, rfl, h1⟩ := n_pC_x h
  obtain ⟨z1, t1, rfl, h2⟩ := n_pI_x h1
  obtain ⟨z2, t2, rfl, h3⟩ := n_pI_x h2
  obtain ⟨rfl, hE⟩ := n_pE_x h3
  obtain ⟨p, hp, hk⟩ := Option.bind_eq_some_iff.mp hE
  exact ⟨_, _, eX9_waysToFit N hG z1 z2 M p hp, hk⟩
/-! ===== SleightHouse$Thought.surePlace(I)I ===== -/
def mX9_surePlace : nY := (RX9, yX9_surePlace, cX9_surePlace, 4, some .int)
theorem okX9_surePlace : n_MOK mX9_surePlace 1 := ⟨w_1337, w_149, ⟨by decide +kernel, by decide +kernel, by decide +kernel⟩, by decide⟩
abbrev aX9_surePlace (N : Nat) (G : nG) : List (Nat × nO (Int32 × nM)) := [(0, o_push (.int (-1 : Int32)) 1), (1, o_istore 4 2 2), (2, o_push (.int (0 : Int32)) 3), (3, o_istore 4 3 4), (4, o_iload 3 5), (5, o_push (.int (8 : Int32)) 7), (7, oc_ge 34 10), (10, o_aload 0 11), (11, o_iload 1 12), (12, o_iload 3 13), (13, o_callVc 98 2 (hX9_waysToFit N G) 16), (16, oi_le 28 19), (19, o_iload 2 20), (20, o_push (.int (-1 : Int32)) 21), (21, oc_eq 26 24), (24, o_push (.int (-1 : Int32)) 25), (25, o_iret), (26, o_iload 3 27), (27, o_istore 4 2 28), (28, o_inc 4 3 (1 : Int32) 31), (31, o_goto 4), (34, o_iload 2 35), (35, o_iret)]
set_option maxRecDepth 200000 in
theorem iX9_surePlace {l : Launch} {w : nW} (N : Nat) {G : nG} (hG : n_GOK G) : n_AllS l w 3 mX9_surePlace G (n_fin dv_i G) (aX9_surePlace N G) :=
  n_c (s_iconst (pc := 0) (n := -1) (by decide +kernel) (by decide +kernel)) <|
  n_c (s_istore_n (pc := 1) (k := 2) (by decide +kernel)) <|
  n_c (s_iconst (pc := 2) (n := 0) (by decide +kernel) (by decide +kernel)) <|
  n_c (s_istore_n (pc := 3) (k := 3) (by decide +kernel)) <|
  n_c (s_iload_n (pc := 4) (k := 3) (by decide +kernel)) <|
  n_c (s_bipush (pc := 5) (n := 8) (by decide +kernel) (by decide +kernel)) <|
  n_c (s_icmp_ge (pc := 7) (off := 27) (by decide +kernel) (by decide +kernel)) <|
  n_c (s_aload_n (pc := 10) (k := 0) (by decide +kernel)) <|
  n_c (s_iload_n (pc := 11) (k := 1) (by decide +kernel)) <|
  n_c (s_iload_n (pc := 12) (k := 3) (by decide +kernel)) <|
  n_c (s_callVc (s_callV (pc := 13) (csX9_waysToFit N hG) (by decide) okX9_waysToFit nok9 w_1326 w_1327 w_1338 (by decide +kernel)) (gk98 hG)) <|
  n_c (s_if_le (pc := 16) (off := 12) (by decide +kernel) (by decide +kernel)) <|
  n_c (s_iload_n (pc := 19) (k := 2) (by decide +kernel)) <|
  n_c (s_iconst (pc := 20) (n := -1) (by decide +kernel) (by decide +kernel)) <|
  n_c (s_icmp_eq (pc := 21) (off := 5) (by decide +kernel) (by decide +kernel)) <|
  n_c (s_iconst (pc := 24) (n := -1) (by decide +kernel) (by decide +kernel)) <|
  n_c (s_iret (pc := 25) rfl (by decide +kernel)) <|
  n_c (s_iload_n (pc := 26) (k := 3) (by decide +kernel)) <|
  n_c (s_istore_n (pc := 27) (k := 2) (by decide +kernel)) <|
  n_c (s_iinc (pc := 28) (n := 1) (by decide +kernel) (by decide +kernel)) <|
  n_c (s_goto (pc := 31) (off := -27) (by decide +kernel) (by decide +kernel)) <|
  n_c (s_iload_n (pc := 34) (k := 2) (by decide +kernel)) <|
  n_c (s_iret (pc := 35) rfl (by decide +kernel)) <|
  n_e
def fX9_surePlace_4 (N : Nat) (G : nG) : Nat → Int32 → Int32 → Int32 → nM → Option (Int32 × nM)
  | 0, _, _, _, _ => none
  | n + 1, x1, x2, x3, M =>
    if (8 : Int32) ≤ x3 then
      some (x2, M)
    else
      (fX9_waysToFit N G x1 x3 M).bind fun p1 =>
      if p1.1 ≤ 0 then
        let v2 : Int32 := (x3 + (1 : Int32))
        fX9_surePlace_4 N G n x1 x2 v2 p1.2
      else
        if x2 = (-1 : Int32) then
          let v3 : Int32 := (x3 + (1 : Int32))
          fX9_surePlace_4 N G n x1 x3 v3 p1.2
        else
          some ((-1 : Int32), p1.2)
set_option maxRecDepth 200000 in
theorem bX9_surePlace_4 {l : Launch} {w : nW} (N : Nat) {G : nG} (hG : n_GOK G) : ∀ (n : Nat) (x1 : Int32) (x2 : Int32) (x3 : Int32) (M : nM) (r : Int32 × nM), fX9_surePlace_4 N G n x1 x2 x3 M = some r → n_At l w 3 mX9_surePlace 4 [(0, .ref 98), (1, .int x1), (2, .int x2), (3, .int x3)] [] (G, M) (dv_i r.1, (G, r.2)) := by
  intro n
  induction n with
  | zero => intro x1 x2 x3 M r h; cases (show (none : Option (Int32 × nM)) = some r from h)
  | succ n ih =>
    intro x1 x2 x3 M r h
    exact n_seg (fin := n_fin dv_i G) (K := [(4, fun lv st M => n_lC 98 lv 0 (n_lI lv 1 (fun x1 => n_lI lv 2 (fun x2 => n_lI lv 3 (fun x3 => n_pE st (fX9_surePlace_4 N G n x1 x2 x3 M))))))]) 24 (iX9_surePlace N hG) (n_kc (fun lv st M r h => by
      obtain ⟨e0, h1⟩ := n_lC_x h
      obtain ⟨x1, e1, h2⟩ := n_lI_x h1
      obtain ⟨x2, e2, h3⟩ := n_lI_x h2
      obtain ⟨x3, e3, h4⟩ := n_lI_x h3
      obtain ⟨rfl, h5⟩ := n_pE_x h4
      exact n_sub (n_qc e0 (n_qc e1 (n_qc e2 (n_qc e3 n_qe)))) (ih x1 x2 x3 M r h5)) n_ke) (by rfl) h
def fX9_surePlace (N : Nat) (G : nG) (x1 : Int32) (M : nM) : Option (Int32 × nM) :=
  fX9_surePlace_4 N G N x1 (-1 : Int32) (0 : Int32) M
set_option maxRecDepth 200000 in
theorem bX9_surePlace_0 {l : Launch} {w : nW} (N : Nat) {G : nG} (hG : n_GOK G) (x1 : Int32) (M : nM) (r : Int32 × nM) (h : fX9_surePlace N G x1 M = some r) : n_At l w 3 mX9_surePlace 0 [(0, .ref 98), (1, .int x1)] [] (G, M) (dv_i r.1, (G, r.2)) :=
  n_seg (fin := n_fin dv_i G) (K := [(4, fun lv st M => n_lC 98 lv 0 (n_lI lv 1 (fun x1 => n_lI lv 2 (fun x2 => n_lI lv 3 (fun x3 => n_pE st (fX9_surePlace_4 N G N x1 x2 x3 M))))))]) 7 (iX9_surePlace N hG) (n_kc (fun lv st M r h => by
      obtain ⟨e0, h1⟩ := n_lC_x h
      obtain ⟨x1, e1, h2⟩ := n_lI_x h1
      obtain ⟨x2, e2, h3⟩ := n_lI_x h2
      obtain ⟨x3, e3, h4⟩ := n_lI_x h3
      obtain ⟨rfl, h5⟩ := n_pE_x h4
      exact n_sub (n_qc e0 (n_qc e1 (n_qc e2 (n_qc e3 n_qe)))) (bX9_surePlace_4 N hG N x1 x2 x3 M r h5)) n_ke) (by rfl) h
theorem eX9_surePlace {l : Launch} {w : nW} (N : Nat) {G : nG} (hG : n_GOK G) (z1 : Int32) (M : nM) (r : Int32 × nM) (h : fX9_surePlace N G z1 M = some r) : n_Met l w 3 mX9_surePlace [.ref 98, .int z1] (G, M) (dv_i r.1, (G, r.2)) :=
  n_entry (by decide +kernel) rfl (Nat.le_of_ble_eq_true rfl) (n_sub (lv := [(0, .ref 98), (1, .int z1)]) (n_qc rfl (n_qc rfl n_qe)) (bX9_surePlace_0 N hG z1 M r h))
abbrev hX9_surePlace (N : Nat) (G : nG) : nF := fun T as M k => n_pC 98 as (fun as => n_pI as (fun z1 as => n_pE as ((fX9_surePlace N G z1 M).bind fun p => k (dv_i p.1) p.2)))
theorem csX9_surePlace {l : Launch} {w : nW} (N : Nat) {G : nG} (hG : n_GOK G) : n_CS l w 3 mX9_surePlace G (hX9_surePlace N G) := fun T as M k r h => by
  obtain ⟨t0, rfl, h1⟩ := n_pC_x h
  obtain ⟨z1, t1, rfl, h2⟩ := n_pI_x h1
  obtain ⟨rfl, hE⟩ := n_pE_x h2
  obtain ⟨p, hp, hk⟩ := Option.bind_eq_some_iff.mp hE
  exact ⟨_, _, eX9_surePlace N hG z1 M p hp, hk⟩
/-! ===== SleightHouse.fits(I)I ===== -/
def mX11_fits : nY := (RX11, yX11_fits, cX11_fits, 2, some .int)
theorem okX11_fits : n_MOK mX11_fits 1 := ⟨w_1324, w_137, ⟨by decide +kernel, by decide +kernel, by decide +kernel⟩, by decide⟩
abbrev aX11_fits (N : Nat) (G : nG) : List (Nat × nO (Int32 × nM)) := [(0, o_iload 1 1), (1, o_push (.int (-1 : Int32)) 2), (2, oc_ne 15 5), (5, o_aload 0 6), (6, o_gRc 1 98 9), (9, o_push (.int (-1 : Int32)) 10), (10, o_push (.int (0 : Int32)) 11), (11, o_callVc 98 2 (hX9_waysToFit N G) 14), (14, o_iret), (15, o_iload 1 16), (16, o_push (.int (0 : Int32)) 17), (17, o_push (.int (7 : Int32)) 19), (19, o_call 3 (hX11_within) 22), (22, oi_eq 36 25), (25, o_aload 0 26), (26, o_gRc 1 98 29), (29, o_iload 1 30), (30, o_callVc 98 1 (hX9_surePlace N G) 33), (33, o_goto 37), (36, o_push (.int (-1 : Int32)) 37), (37, o_iret)]
set_option maxRecDepth 200000 in
theorem iX11_fits {l : Launch} {w : nW} (N : Nat) {G : nG} (hG : n_GOK G) : n_AllS l w 4 mX11_fits G (n_fin dv_i G) (aX11_fits N G) :=
  n_c (s_iload_n (pc := 0) (k := 1) (by decide +kernel)) <|
  n_c (s_iconst (pc := 1) (n := -1) (by decide +kernel) (by decide +kernel)) <|
  n_c (s_icmp_ne (pc := 2) (off := 13) (by decide +kernel) (by decide +kernel)) <|
  n_c (s_aload_n (pc := 5) (k := 0) (by decide +kernel)) <|
  n_c (s_gRc (s_getR (pc := 6) (ci := 11) (k := 5) (idx := 63) nok11 (by decide) rfl (by decide +kernel) w_577) (gk1 hG) (gm1_5 hG)) <|
  n_c (s_iconst (pc := 9) (n := -1) (by decide +kernel) (by decide +kernel)) <|
  n_c (s_iconst (pc := 10) (n := 0) (by decide +kernel) (by decide +kernel)) <|
  n_c (s_callVc (s_callV (pc := 11) (csX9_waysToFit N hG) (by decide) okX9_waysToFit nok9 w_1326 w_1327 w_1325 (by decide +kernel)) (gk98 hG)) <|
  n_c (s_iret (pc := 14) rfl (by decide +kernel)) <|
  n_c (s_iload_n (pc := 15) (k := 1) (by decide +kernel)) <|
  n_c (s_iconst (pc := 16) (n := 0) (by decide +kernel) (by decide +kernel)) <|
  n_c (s_bipush (pc := 17) (n := 7) (by decide +kernel) (by decide +kernel)) <|
  n_c (s_callS (pc := 19) (csX11_within) (by decide) okX11_within w_610 w_609 (by decide +kernel)) <|
  n_c (s_if_eq (pc := 22) (off := 14) (by decide +kernel) (by decide +kernel)) <|
  n_c (s_aload_n (pc := 25) (k := 0) (by decide +kernel)) <|
  n_c (s_gRc (s_getR (pc := 26) (ci := 11) (k := 5) (idx := 63) nok11 (by decide) rfl (by decide +kernel) w_577) (gk1 hG) (gm1_5 hG)) <|
  n_c (s_iload_n (pc := 29) (k := 1) (by decide +kernel)) <|
  n_c (s_callVc (s_callV (pc := 30) (csX9_surePlace N hG) (by decide) okX9_surePlace nok9 w_1335 w_1336 w_1334 (by decide +kernel)) (gk98 hG)) <|
  n_c (s_goto (pc := 33) (off := 4) (by decide +kernel) (by decide +kernel)) <|
  n_c (s_iconst (pc := 36) (n := -1) (by decide +kernel) (by decide +kernel)) <|
  n_c (s_iret (pc := 37) rfl (by decide +kernel)) <|
  n_e
def fX11_fits (N : Nat) (G : nG) (x1 : Int32) (M : nM) : Option (Int32 × nM) :=
  if ¬ x1 = (-1 : Int32) then
    (fX11_within x1 (0 : Int32) (7 : Int32) M).bind fun p1 =>
    if p1.1 = 0 then
      some ((-1 : Int32), p1.2)
    else
      (fX9_surePlace N G x1 p1.2).bind fun p2 =>
      some (p2.1, p2.2)
  else
    (fX9_waysToFit N G (-1 : Int32) (0 : Int32) M).bind fun p3 =>
    some (p3.1, p3.2)
set_option maxRecDepth 200000 in
theorem bX11_fits_0 {l : Launch} {w : nW} (N : Nat) {G : nG} (hG : n_GOK G) (x1 : Int32) (M : nM) (r : Int32 × nM) (h : fX11_fits N G x1 M = some r) : n_At l w 4 mX11_fits 0 [(0, .ref 1), (1, .int x1)] [] (G, M) (dv_i r.1, (G, r.2)) :=
  n_seg (fin := n_fin dv_i G) (K := []) 25 (iX11_fits N hG) n_ke (by rfl) h
theorem eX11_fits {l : Launch} {w : nW} (N : Nat) {G : nG} (hG : n_GOK G) (z1 : Int32) (M : nM) (r : Int32 × nM) (h : fX11_fits N G z1 M = some r) : n_Met l w 4 mX11_fits [.ref 1, .int z1] (G, M) (dv_i r.1, (G, r.2)) :=
  n_entry (by decide +kernel) rfl (Nat.le_of_ble_eq_true rfl) (n_sub (lv := [(0, .ref 1), (1, .int z1)]) (n_qc rfl (n_qc rfl n_qe)) (bX11_fits_0 N hG z1 M r h))
abbrev hX11_fits (N : Nat) (G : nG) : nF := fun T as M k => n_pC 1 as (fun as => n_pI as (fun z1 as => n_pE as ((fX11_fits N G z1 M).bind fun p => k (dv_i p.1) p.2)))
theorem csX11_fits {l : Launch} {w : nW} (N : Nat) {G : nG} (hG : n_GOK G) : n_CS l w 4 mX11_fits G (hX11_fits N G) := fun T as M k r h => by
  obtain ⟨t0, rfl, h1⟩ := n_pC_x h
  obtain ⟨z1, t1, rfl, h2⟩ := n_pI_x h1
  obtain ⟨rfl, hE⟩ := n_pE_x h2
  obtain ⟨p, hp, hk⟩ := Option.bind_eq_some_iff.mp hE
  exact ⟨_, _, eX11_fits N hG z1 M p hp, hk⟩
/-! ===== SleightHouseModel.doesFit()Z ===== -/
def mX12_doesFit : nY := (RX12, yX12_doesFit, cX12_doesFit, 2, some .boolean)
theorem okX12_doesFit : n_MOK mX12_doesFit 0 := ⟨w_2132, w_151, ⟨by decide +kernel, by decide +kernel, by decide +kernel⟩, by decide⟩
abbrev aX12_doesFit (N : Nat) : List (Nat × nO (Int32 × nM)) := [(0, o_push (.int (0 : Int32)) 1), (1, o_istore 2 1 2), (2, o_iload 1 3), (3, o_aload 0 4), (4, o_gIc 107 65 7), (7, oc_ge 61 10), (10, o_aload 0 11), (11, o_gRc 107 147 14), (14, o_aload 0 15), (15, o_gRc 107 144 18), (18, o_iload 1 19), (19, o_aldc 144 10 20), (20, o_aldc 147 8 21), (21, o_aload 0 22), (22, o_gRc 107 145 25), (25, o_iload 1 26), (26, o_aldc 145 10 27), (27, oc_ne 34 30), (30, o_push (.int (1 : Int32)) 31), (31, o_goto 35), (34, o_push (.int (0 : Int32)) 35), (35, o_aload 0 36), (36, o_gRc 107 146 39), (39, o_iload 1 40), (40, o_aldc 146 10 41), (41, o_push (.int (1 : Int32)) 42), (42, oc_ne 49 45), (45, o_push (.int (1 : Int32)) 46), (46, o_goto 50), (49, o_push (.int (0 : Int32)) 50), (50, oc_eq 55 53), (53, o_push (.int (0 : Int32)) 54), (54, o_zret), (55, o_inc 2 1 (1 : Int32) 58), (58, o_goto 2), (61, o_push (.int (1 : Int32)) 62), (62, o_zret)]
set_option maxRecDepth 200000 in
theorem iX12_doesFit {l : Launch} {w : nW} (N : Nat) {G : nG} (hG : n_GOK G) : n_AllS l w 0 mX12_doesFit G (n_fin dv_i G) (aX12_doesFit N) :=
  n_c (s_iconst (pc := 0) (n := 0) (by decide +kernel) (by decide +kernel)) <|
  n_c (s_istore_n (pc := 1) (k := 1) (by decide +kernel)) <|
  n_c (s_iload_n (pc := 2) (k := 1) (by decide +kernel)) <|
  n_c (s_aload_n (pc := 3) (k := 0) (by decide +kernel)) <|
  n_c (s_gIc (s_getI (pc := 4) (ci := 12) (k := 65) (idx := 490) nok12 (by decide) rfl (by decide +kernel) w_1472) (gk107 hG)) <|
  n_c (s_icmp_ge (pc := 7) (off := 54) (by decide +kernel) (by decide +kernel)) <|
  n_c (s_aload_n (pc := 10) (k := 0) (by decide +kernel)) <|
  n_c (s_gRc (s_getR (pc := 11) (ci := 12) (k := 69) (idx := 131) nok12 (by decide) rfl (by decide +kernel) w_1476) (gk107 hG) (gm107_69 hG)) <|
  n_c (s_aload_n (pc := 14) (k := 0) (by decide +kernel)) <|
  n_c (s_gRc (s_getR (pc := 15) (ci := 12) (k := 66) (idx := 122) nok12 (by decide) rfl (by decide +kernel) w_1473) (gk107 hG) (gm107_66 hG)) <|
  n_c (s_iload_n (pc := 18) (k := 1) (by decide +kernel)) <|
  n_c (s_aldc (s_iaload (pc := 19) (by decide +kernel)) (gk144 hG) (gl144 hG)) <|
  n_c (s_aldc (s_iaload (pc := 20) (by decide +kernel)) (gk147 hG) (gl147 hG)) <|
  n_c (s_aload_n (pc := 21) (k := 0) (by decide +kernel)) <|
  n_c (s_gRc (s_getR (pc := 22) (ci := 12) (k := 67) (idx := 125) nok12 (by decide) rfl (by decide +kernel) w_1474) (gk107 hG) (gm107_67 hG)) <|
  n_c (s_iload_n (pc := 25) (k := 1) (by decide +kernel)) <|
  n_c (s_aldc (s_iaload (pc := 26) (by decide +kernel)) (gk145 hG) (gl145 hG)) <|
  n_c (s_icmp_ne (pc := 27) (off := 7) (by decide +kernel) (by decide +kernel)) <|
  n_c (s_iconst (pc := 30) (n := 1) (by decide +kernel) (by decide +kernel)) <|
  n_c (s_goto (pc := 31) (off := 4) (by decide +kernel) (by decide +kernel)) <|
  n_c (s_iconst (pc := 34) (n := 0) (by decide +kernel) (by decide +kernel)) <|
  n_c (s_aload_n (pc := 35) (k := 0) (by decide +kernel)) <|
  n_c (s_gRc (s_getR (pc := 36) (ci := 12) (k := 68) (idx := 128) nok12 (by decide) rfl (by decide +kernel) w_1475) (gk107 hG) (gm107_68 hG)) <|
  n_c (s_iload_n (pc := 39) (k := 1) (by decide +kernel)) <|
  n_c (s_aldc (s_iaload (pc := 40) (by decide +kernel)) (gk146 hG) (gl146 hG)) <|
  n_c (s_iconst (pc := 41) (n := 1) (by decide +kernel) (by decide +kernel)) <|
  n_c (s_icmp_ne (pc := 42) (off := 7) (by decide +kernel) (by decide +kernel)) <|
  n_c (s_iconst (pc := 45) (n := 1) (by decide +kernel) (by decide +kernel)) <|
  n_c (s_goto (pc := 46) (off := 4) (by decide +kernel) (by decide +kernel)) <|
  n_c (s_iconst (pc := 49) (n := 0) (by decide +kernel) (by decide +kernel)) <|
  n_c (s_icmp_eq (pc := 50) (off := 5) (by decide +kernel) (by decide +kernel)) <|
  n_c (s_iconst (pc := 53) (n := 0) (by decide +kernel) (by decide +kernel)) <|
  n_c (s_zret (pc := 54) rfl (by decide +kernel)) <|
  n_c (s_iinc (pc := 55) (n := 1) (by decide +kernel) (by decide +kernel)) <|
  n_c (s_goto (pc := 58) (off := -56) (by decide +kernel) (by decide +kernel)) <|
  n_c (s_iconst (pc := 61) (n := 1) (by decide +kernel) (by decide +kernel)) <|
  n_c (s_zret (pc := 62) rfl (by decide +kernel)) <|
  n_e
def fX12_doesFit_50 (N : Nat) (k2 : Int32 → nM → Option (Int32 × nM)) (x1 : Int32) (s0 : Int32) (s1 : Int32) (M : nM) : Option (Int32 × nM) :=
  if s1 = s0 then
    let v1 : Int32 := (x1 + (1 : Int32))
    k2 v1 M
  else
    some ((0 : Int32), M)
set_option maxRecDepth 200000 in
theorem bX12_doesFit_50 {l : Launch} {w : nW} (N : Nat) {G : nG} (hG : n_GOK G) (k2 : Int32 → nM → Option (Int32 × nM)) (hk2 : ∀ (x1 : Int32) (M : nM) (r : Int32 × nM), k2 x1 M = some r → n_At l w 0 mX12_doesFit 2 [(0, .ref 107), (1, .int x1)] [] (G, M) (dv_i r.1, (G, r.2))) (x1 : Int32) (s0 : Int32) (s1 : Int32) (M : nM) (r : Int32 × nM) (h : fX12_doesFit_50 N k2 x1 s0 s1 M = some r) : n_At l w 0 mX12_doesFit 50 [(0, .ref 107), (1, .int x1)] [.int s0, .int s1] (G, M) (dv_i r.1, (G, r.2)) :=
  n_seg (fin := n_fin dv_i G) (K := [(2, fun lv st M => n_lC 107 lv 0 (n_lI lv 1 (fun x1 => n_pE st (k2 x1 M))))]) 8 (iX12_doesFit N hG) (n_kc (fun lv st M r h => by
      obtain ⟨e0, h1⟩ := n_lC_x h
      obtain ⟨x1, e1, h2⟩ := n_lI_x h1
      obtain ⟨rfl, h3⟩ := n_pE_x h2
      exact n_sub (n_qc e0 (n_qc e1 n_qe)) (hk2 x1 M r h3)) n_ke) (by rfl) h
def fX12_doesFit_35 (N : Nat) (k2 : Int32 → nM → Option (Int32 × nM)) (x1 : Int32) (s0 : Int32) (M : nM) : Option (Int32 × nM) :=
  n_chk (n_ib 10 x1) <|
  if ¬ (M 146 x1.toNatClampNeg) = (1 : Int32) then
    fX12_doesFit_50 N k2 x1 (0 : Int32) s0 M
  else
    fX12_doesFit_50 N k2 x1 (1 : Int32) s0 M
set_option maxRecDepth 200000 in
theorem bX12_doesFit_35 {l : Launch} {w : nW} (N : Nat) {G : nG} (hG : n_GOK G) (k2 : Int32 → nM → Option (Int32 × nM)) (hk2 : ∀ (x1 : Int32) (M : nM) (r : Int32 × nM), k2 x1 M = some r → n_At l w 0 mX12_doesFit 2 [(0, .ref 107), (1, .int x1)] [] (G, M) (dv_i r.1, (G, r.2))) (x1 : Int32) (s0 : Int32) (M : nM) (r : Int32 × nM) (h : fX12_doesFit_35 N k2 x1 s0 M = some r) : n_At l w 0 mX12_doesFit 35 [(0, .ref 107), (1, .int x1)] [.int s0] (G, M) (dv_i r.1, (G, r.2)) :=
  n_seg (fin := n_fin dv_i G) (K := [(50, fun lv st M => n_lC 107 lv 0 (n_lI lv 1 (fun x1 => n_pI st (fun s0 st => n_pI st (fun s1 st => n_pE st (fX12_doesFit_50 N k2 x1 s0 s1 M))))))]) 12 (iX12_doesFit N hG) (n_kc (fun lv st M r h => by
      obtain ⟨e0, h1⟩ := n_lC_x h
      obtain ⟨x1, e1, h2⟩ := n_lI_x h1
      obtain ⟨s0, t0, rfl, h3⟩ := n_pI_x h2
      obtain ⟨s1, t1, rfl, h4⟩ := n_pI_x h3
      obtain ⟨rfl, h5⟩ := n_pE_x h4
      exact n_sub (n_qc e0 (n_qc e1 n_qe)) (bX12_doesFit_50 N hG k2 hk2 x1 s0 s1 M r h5)) n_ke) (by rfl) h
def fX12_doesFit_2 (N : Nat) : Nat → Int32 → nM → Option (Int32 × nM)
  | 0, _, _ => none
  | n + 1, x1, M =>
    if (M 107 65) ≤ x1 then
      some ((1 : Int32), M)
    else
      n_chk (n_ib 10 x1) <|
      n_chk (n_ib 8 (M 144 x1.toNatClampNeg)) <|
      n_chk (n_ib 10 x1) <|
      if ¬ (M 147 (M 144 x1.toNatClampNeg).toNatClampNeg) = (M 145 x1.toNatClampNeg) then
        fX12_doesFit_35 N (fun x1 M => fX12_doesFit_2 N n x1 M) x1 (0 : Int32) M
      else
        fX12_doesFit_35 N (fun x1 M => fX12_doesFit_2 N n x1 M) x1 (1 : Int32) M
set_option maxRecDepth 200000 in
theorem bX12_doesFit_2 {l : Launch} {w : nW} (N : Nat) {G : nG} (hG : n_GOK G) : ∀ (n : Nat) (x1 : Int32) (M : nM) (r : Int32 × nM), fX12_doesFit_2 N n x1 M = some r → n_At l w 0 mX12_doesFit 2 [(0, .ref 107), (1, .int x1)] [] (G, M) (dv_i r.1, (G, r.2)) := by
  intro n
  induction n with
  | zero => intro x1 M r h; cases (show (none : Option (Int32 × nM)) = some r from h)
  | succ n ih =>
    intro x1 M r h
    exact n_seg (fin := n_fin dv_i G) (K := [(35, fun lv st M => n_lC 107 lv 0 (n_lI lv 1 (fun x1 => n_pI st (fun s0 st => n_pE st (fX12_doesFit_35 N (fun x1 M => fX12_doesFit_2 N n x1 M) x1 s0 M)))))]) 24 (iX12_doesFit N hG) (n_kc (fun lv st M r h => by
      obtain ⟨e0, h1⟩ := n_lC_x h
      obtain ⟨x1, e1, h2⟩ := n_lI_x h1
      obtain ⟨s0, t0, rfl, h3⟩ := n_pI_x h2
      obtain ⟨rfl, h4⟩ := n_pE_x h3
      exact n_sub (n_qc e0 (n_qc e1 n_qe)) (bX12_doesFit_35 N hG (fun x1 M => fX12_doesFit_2 N n x1 M) ih x1 s0 M r h4)) n_ke) (by rfl) h
def fX12_doesFit (N : Nat) (M : nM) : Option (Int32 × nM) :=
  fX12_doesFit_2 N N (0 : Int32) M
set_option maxRecDepth 200000 in
theorem bX12_doesFit_0 {l : Launch} {w : nW} (N : Nat) {G : nG} (hG : n_GOK G) (M : nM) (r : Int32 × nM) (h : fX12_doesFit N M = some r) : n_At l w 0 mX12_doesFit 0 [(0, .ref 107)] [] (G, M) (dv_i r.1, (G, r.2)) :=
  n_seg (fin := n_fin dv_i G) (K := [(2, fun lv st M => n_lC 107 lv 0 (n_lI lv 1 (fun x1 => n_pE st (fX12_doesFit_2 N N x1 M))))]) 5 (iX12_doesFit N hG) (n_kc (fun lv st M r h => by
      obtain ⟨e0, h1⟩ := n_lC_x h
      obtain ⟨x1, e1, h2⟩ := n_lI_x h1
      obtain ⟨rfl, h3⟩ := n_pE_x h2
      exact n_sub (n_qc e0 (n_qc e1 n_qe)) (bX12_doesFit_2 N hG N x1 M r h3)) n_ke) (by rfl) h
theorem eX12_doesFit {l : Launch} {w : nW} (N : Nat) {G : nG} (hG : n_GOK G) (M : nM) (r : Int32 × nM) (h : fX12_doesFit N M = some r) : n_Met l w 0 mX12_doesFit [.ref 107] (G, M) (dv_i r.1, (G, r.2)) :=
  n_entry (by decide +kernel) rfl (Nat.le_of_ble_eq_true rfl) (n_sub (lv := [(0, .ref 107)]) (n_qc rfl n_qe) (bX12_doesFit_0 N hG M r h))
abbrev hX12_doesFit (N : Nat) : nF := fun T as M k => n_pC 107 as (fun as => n_pE as ((fX12_doesFit N M).bind fun p => k (dv_i p.1) p.2))
theorem csX12_doesFit {l : Launch} {w : nW} (N : Nat) {G : nG} (hG : n_GOK G) : n_CS l w 0 mX12_doesFit G (hX12_doesFit N) := fun T as M k r h => by
  obtain ⟨t0, rfl, h1⟩ := n_pC_x h
  obtain ⟨rfl, hE⟩ := n_pE_x h1
  obtain ⟨p, hp, hk⟩ := Option.bind_eq_some_iff.mp hE
  exact ⟨_, _, eX12_doesFit N hG M p hp, hk⟩
/-! ===== SleightHouseModel.goesToNextOrder()Z ===== -/
def mX12_goesToNextOrder : nY := (RX12, yX12_goesToNextOrder, cX12_goesToNextOrder, 6, some .boolean)
theorem okX12_goesToNextOrder : n_MOK mX12_goesToNextOrder 0 := ⟨w_2136, w_151, ⟨by decide +kernel, by decide +kernel, by decide +kernel⟩, by decide⟩
abbrev aX12_goesToNextOrder (N : Nat) : List (Nat × nO (Int32 × nM)) := [(0, o_push (.int (6 : Int32)) 2), (2, o_istore 6 1 3), (3, o_iload 1 4), (4, oi_lt 31 7), (7, o_aload 0 8), (8, o_gRc 107 147 11), (11, o_iload 1 12), (12, o_aldc 147 8 13), (13, o_aload 0 14), (14, o_gRc 107 147 17), (17, o_iload 1 18), (18, o_push (.int (1 : Int32)) 19), (19, o_iadd 20), (20, o_aldc 147 8 21), (21, oc_le 31 24), (24, o_iload 1 25), (25, o_push (.int (1 : Int32)) 26), (26, o_isub 27), (27, o_istore 6 1 28), (28, o_goto 3), (31, o_iload 1 32), (32, oi_ge 37 35), (35, o_push (.int (0 : Int32)) 36), (36, o_zret), (37, o_push (.int (7 : Int32)) 39), (39, o_istore 6 2 40), (40, o_aload 0 41), (41, o_gRc 107 147 44), (44, o_iload 2 45), (45, o_aldc 147 8 46), (46, o_aload 0 47), (47, o_gRc 107 147 50), (50, o_iload 1 51), (51, o_aldc 147 8 52), (52, oc_ge 62 55), (55, o_iload 2 56), (56, o_push (.int (1 : Int32)) 57), (57, o_isub 58), (58, o_istore 6 2 59), (59, o_goto 40), (62, o_aload 0 63), (63, o_gRc 107 147 66), (66, o_iload 1 67), (67, o_aldc 147 8 68), (68, o_istore 6 3 69), (69, o_aload 0 70), (70, o_gRc 107 147 73), (73, o_iload 1 74), (74, o_aload 0 75), (75, o_gRc 107 147 78), (78, o_iload 2 79), (79, o_aldc 147 8 80), (80, o_iastc 147 8 81), (81, o_aload 0 82), (82, o_gRc 107 147 85), (85, o_iload 2 86), (86, o_iload 3 87), (87, o_iastc 147 8 88), (88, o_push (.int (7 : Int32)) 90), (90, o_istore 6 4 92), (92, o_iload 1 93), (93, o_push (.int (1 : Int32)) 94), (94, o_iadd 95), (95, o_istore 6 5 97), (97, o_iload 5 99), (99, o_iload 4 101), (101, oc_ge 146 104), (104, o_aload 0 105), (105, o_gRc 107 147 108), (108, o_iload 5 110), (110, o_aldc 147 8 111), (111, o_istore 6 3 112), (112, o_aload 0 113), (113, o_gRc 107 147 116), (116, o_iload 5 118), (118, o_aload 0 119), (119, o_gRc 107 147 122), (122, o_iload 4 124), (124, o_aldc 147 8 125), (125, o_iastc 147 8 126), (126, o_aload 0 127), (127, o_gRc 107 147 130), (130, o_iload 4 132), (132, o_iload 3 133), (133, o_iastc 147 8 134), (134, o_iload 4 136), (136, o_push (.int (1 : Int32)) 137), (137, o_isub 138), (138, o_istore 6 4 140), (140, o_inc 6 5 (1 : Int32) 143), (143, o_goto 97), (146, o_push (.int (1 : Int32)) 147), (147, o_zret)]
set_option maxRecDepth 200000 in
theorem iX12_goesToNextOrder {l : Launch} {w : nW} (N : Nat) {G : nG} (hG : n_GOK G) : n_AllS l w 0 mX12_goesToNextOrder G (n_fin dv_i G) (aX12_goesToNextOrder N) :=
  n_c (s_bipush (pc := 0) (n := 6) (by decide +kernel) (by decide +kernel)) <|
  n_c (s_istore_n (pc := 2) (k := 1) (by decide +kernel)) <|
  n_c (s_iload_n (pc := 3) (k := 1) (by decide +kernel)) <|
  n_c (s_if_lt (pc := 4) (off := 27) (by decide +kernel) (by decide +kernel)) <|
  n_c (s_aload_n (pc := 7) (k := 0) (by decide +kernel)) <|
  n_c (s_gRc (s_getR (pc := 8) (ci := 12) (k := 69) (idx := 131) nok12 (by decide) rfl (by decide +kernel) w_1476) (gk107 hG) (gm107_69 hG)) <|
  n_c (s_iload_n (pc := 11) (k := 1) (by decide +kernel)) <|
  n_c (s_aldc (s_iaload (pc := 12) (by decide +kernel)) (gk147 hG) (gl147 hG)) <|
  n_c (s_aload_n (pc := 13) (k := 0) (by decide +kernel)) <|
  n_c (s_gRc (s_getR (pc := 14) (ci := 12) (k := 69) (idx := 131) nok12 (by decide) rfl (by decide +kernel) w_1476) (gk107 hG) (gm107_69 hG)) <|
  n_c (s_iload_n (pc := 17) (k := 1) (by decide +kernel)) <|
  n_c (s_iconst (pc := 18) (n := 1) (by decide +kernel) (by decide +kernel)) <|
  n_c (s_iadd (pc := 19) (by decide +kernel)) <|
  n_c (s_aldc (s_iaload (pc := 20) (by decide +kernel)) (gk147 hG) (gl147 hG)) <|
  n_c (s_icmp_le (pc := 21) (off := 10) (by decide +kernel) (by decide +kernel)) <|
  n_c (s_iload_n (pc := 24) (k := 1) (by decide +kernel)) <|
  n_c (s_iconst (pc := 25) (n := 1) (by decide +kernel) (by decide +kernel)) <|
  n_c (s_isub (pc := 26) (by decide +kernel)) <|
  n_c (s_istore_n (pc := 27) (k := 1) (by decide +kernel)) <|
  n_c (s_goto (pc := 28) (off := -25) (by decide +kernel) (by decide +kernel)) <|
  n_c (s_iload_n (pc := 31) (k := 1) (by decide +kernel)) <|
  n_c (s_if_ge (pc := 32) (off := 5) (by decide +kernel) (by decide +kernel)) <|
  n_c (s_iconst (pc := 35) (n := 0) (by decide +kernel) (by decide +kernel)) <|
  n_c (s_zret (pc := 36) rfl (by decide +kernel)) <|
  n_c (s_bipush (pc := 37) (n := 7) (by decide +kernel) (by decide +kernel)) <|
  n_c (s_istore_n (pc := 39) (k := 2) (by decide +kernel)) <|
  n_c (s_aload_n (pc := 40) (k := 0) (by decide +kernel)) <|
  n_c (s_gRc (s_getR (pc := 41) (ci := 12) (k := 69) (idx := 131) nok12 (by decide) rfl (by decide +kernel) w_1476) (gk107 hG) (gm107_69 hG)) <|
  n_c (s_iload_n (pc := 44) (k := 2) (by decide +kernel)) <|
  n_c (s_aldc (s_iaload (pc := 45) (by decide +kernel)) (gk147 hG) (gl147 hG)) <|
  n_c (s_aload_n (pc := 46) (k := 0) (by decide +kernel)) <|
  n_c (s_gRc (s_getR (pc := 47) (ci := 12) (k := 69) (idx := 131) nok12 (by decide) rfl (by decide +kernel) w_1476) (gk107 hG) (gm107_69 hG)) <|
  n_c (s_iload_n (pc := 50) (k := 1) (by decide +kernel)) <|
  n_c (s_aldc (s_iaload (pc := 51) (by decide +kernel)) (gk147 hG) (gl147 hG)) <|
  n_c (s_icmp_ge (pc := 52) (off := 10) (by decide +kernel) (by decide +kernel)) <|
  n_c (s_iload_n (pc := 55) (k := 2) (by decide +kernel)) <|
  n_c (s_iconst (pc := 56) (n := 1) (by decide +kernel) (by decide +kernel)) <|
  n_c (s_isub (pc := 57) (by decide +kernel)) <|
  n_c (s_istore_n (pc := 58) (k := 2) (by decide +kernel)) <|
  n_c (s_goto (pc := 59) (off := -19) (by decide +kernel) (by decide +kernel)) <|
  n_c (s_aload_n (pc := 62) (k := 0) (by decide +kernel)) <|
  n_c (s_gRc (s_getR (pc := 63) (ci := 12) (k := 69) (idx := 131) nok12 (by decide) rfl (by decide +kernel) w_1476) (gk107 hG) (gm107_69 hG)) <|
  n_c (s_iload_n (pc := 66) (k := 1) (by decide +kernel)) <|
  n_c (s_aldc (s_iaload (pc := 67) (by decide +kernel)) (gk147 hG) (gl147 hG)) <|
  n_c (s_istore_n (pc := 68) (k := 3) (by decide +kernel)) <|
  n_c (s_aload_n (pc := 69) (k := 0) (by decide +kernel)) <|
  n_c (s_gRc (s_getR (pc := 70) (ci := 12) (k := 69) (idx := 131) nok12 (by decide) rfl (by decide +kernel) w_1476) (gk107 hG) (gm107_69 hG)) <|
  n_c (s_iload_n (pc := 73) (k := 1) (by decide +kernel)) <|
  n_c (s_aload_n (pc := 74) (k := 0) (by decide +kernel)) <|
  n_c (s_gRc (s_getR (pc := 75) (ci := 12) (k := 69) (idx := 131) nok12 (by decide) rfl (by decide +kernel) w_1476) (gk107 hG) (gm107_69 hG)) <|
  n_c (s_iload_n (pc := 78) (k := 2) (by decide +kernel)) <|
  n_c (s_aldc (s_iaload (pc := 79) (by decide +kernel)) (gk147 hG) (gl147 hG)) <|
  n_c (s_iastc (s_iastore (pc := 80) (by decide +kernel)) (gk147 hG) (gl147 hG)) <|
  n_c (s_aload_n (pc := 81) (k := 0) (by decide +kernel)) <|
  n_c (s_gRc (s_getR (pc := 82) (ci := 12) (k := 69) (idx := 131) nok12 (by decide) rfl (by decide +kernel) w_1476) (gk107 hG) (gm107_69 hG)) <|
  n_c (s_iload_n (pc := 85) (k := 2) (by decide +kernel)) <|
  n_c (s_iload_n (pc := 86) (k := 3) (by decide +kernel)) <|
  n_c (s_iastc (s_iastore (pc := 87) (by decide +kernel)) (gk147 hG) (gl147 hG)) <|
  n_c (s_bipush (pc := 88) (n := 7) (by decide +kernel) (by decide +kernel)) <|
  n_c (s_istore (pc := 90) (by decide +kernel)) <|
  n_c (s_iload_n (pc := 92) (k := 1) (by decide +kernel)) <|
  n_c (s_iconst (pc := 93) (n := 1) (by decide +kernel) (by decide +kernel)) <|
  n_c (s_iadd (pc := 94) (by decide +kernel)) <|
  n_c (s_istore (pc := 95) (by decide +kernel)) <|
  n_c (s_iload (pc := 97) (by decide +kernel)) <|
  n_c (s_iload (pc := 99) (by decide +kernel)) <|
  n_c (s_icmp_ge (pc := 101) (off := 45) (by decide +kernel) (by decide +kernel)) <|
  n_c (s_aload_n (pc := 104) (k := 0) (by decide +kernel)) <|
  n_c (s_gRc (s_getR (pc := 105) (ci := 12) (k := 69) (idx := 131) nok12 (by decide) rfl (by decide +kernel) w_1476) (gk107 hG) (gm107_69 hG)) <|
  n_c (s_iload (pc := 108) (by decide +kernel)) <|
  n_c (s_aldc (s_iaload (pc := 110) (by decide +kernel)) (gk147 hG) (gl147 hG)) <|
  n_c (s_istore_n (pc := 111) (k := 3) (by decide +kernel)) <|
  n_c (s_aload_n (pc := 112) (k := 0) (by decide +kernel)) <|
  n_c (s_gRc (s_getR (pc := 113) (ci := 12) (k := 69) (idx := 131) nok12 (by decide) rfl (by decide +kernel) w_1476) (gk107 hG) (gm107_69 hG)) <|
  n_c (s_iload (pc := 116) (by decide +kernel)) <|
  n_c (s_aload_n (pc := 118) (k := 0) (by decide +kernel)) <|
  n_c (s_gRc (s_getR (pc := 119) (ci := 12) (k := 69) (idx := 131) nok12 (by decide) rfl (by decide +kernel) w_1476) (gk107 hG) (gm107_69 hG)) <|
  n_c (s_iload (pc := 122) (by decide +kernel)) <|
  n_c (s_aldc (s_iaload (pc := 124) (by decide +kernel)) (gk147 hG) (gl147 hG)) <|
  n_c (s_iastc (s_iastore (pc := 125) (by decide +kernel)) (gk147 hG) (gl147 hG)) <|
  n_c (s_aload_n (pc := 126) (k := 0) (by decide +kernel)) <|
  n_c (s_gRc (s_getR (pc := 127) (ci := 12) (k := 69) (idx := 131) nok12 (by decide) rfl (by decide +kernel) w_1476) (gk107 hG) (gm107_69 hG)) <|
  n_c (s_iload (pc := 130) (by decide +kernel)) <|
  n_c (s_iload_n (pc := 132) (k := 3) (by decide +kernel)) <|
  n_c (s_iastc (s_iastore (pc := 133) (by decide +kernel)) (gk147 hG) (gl147 hG)) <|
  n_c (s_iload (pc := 134) (by decide +kernel)) <|
  n_c (s_iconst (pc := 136) (n := 1) (by decide +kernel) (by decide +kernel)) <|
  n_c (s_isub (pc := 137) (by decide +kernel)) <|
  n_c (s_istore (pc := 138) (by decide +kernel)) <|
  n_c (s_iinc (pc := 140) (n := 1) (by decide +kernel) (by decide +kernel)) <|
  n_c (s_goto (pc := 143) (off := -46) (by decide +kernel) (by decide +kernel)) <|
  n_c (s_iconst (pc := 146) (n := 1) (by decide +kernel) (by decide +kernel)) <|
  n_c (s_zret (pc := 147) rfl (by decide +kernel)) <|
  n_e
def fX12_goesToNextOrder_97 (N : Nat) : Nat → Int32 → Int32 → nM → Option (Int32 × nM)
  | 0, _, _, _ => none
  | n + 1, x4, x5, M =>
    if x4 ≤ x5 then
      some ((1 : Int32), M)
    else
      n_chk (n_ib 8 x5) <|
      let v1 : Int32 := (M 147 x5.toNatClampNeg)
      n_chk (n_ib 8 x4) <|
      n_chk (n_ib 8 x5) <|
      let M2 : nM := n_up M 147 x5.toNatClampNeg (M 147 x4.toNatClampNeg)
      n_chk (n_ib 8 x4) <|
      let M3 : nM := n_up M2 147 x4.toNatClampNeg v1
      let v4 : Int32 := (x4 - (1 : Int32))
      let v5 : Int32 := (x5 + (1 : Int32))
      fX12_goesToNextOrder_97 N n v4 v5 M3
set_option maxRecDepth 200000 in
theorem bX12_goesToNextOrder_97 {l : Launch} {w : nW} (N : Nat) {G : nG} (hG : n_GOK G) : ∀ (n : Nat) (x4 : Int32) (x5 : Int32) (M : nM) (r : Int32 × nM), fX12_goesToNextOrder_97 N n x4 x5 M = some r → n_At l w 0 mX12_goesToNextOrder 97 [(0, .ref 107), (4, .int x4), (5, .int x5)] [] (G, M) (dv_i r.1, (G, r.2)) := by
  intro n
  induction n with
  | zero => intro x4 x5 M r h; cases (show (none : Option (Int32 × nM)) = some r from h)
  | succ n ih =>
    intro x4 x5 M r h
    exact n_seg (fin := n_fin dv_i G) (K := [(97, fun lv st M => n_lC 107 lv 0 (n_lI lv 4 (fun x4 => n_lI lv 5 (fun x5 => n_pE st (fX12_goesToNextOrder_97 N n x4 x5 M)))))]) 32 (iX12_goesToNextOrder N hG) (n_kc (fun lv st M r h => by
      obtain ⟨e0, h1⟩ := n_lC_x h
      obtain ⟨x4, e4, h2⟩ := n_lI_x h1
      obtain ⟨x5, e5, h3⟩ := n_lI_x h2
      obtain ⟨rfl, h4⟩ := n_pE_x h3
      exact n_sub (n_qc e0 (n_qc e4 (n_qc e5 n_qe))) (ih x4 x5 M r h4)) n_ke) (by rfl) h
def fX12_goesToNextOrder_40 (N : Nat) : Nat → Int32 → Int32 → nM → Option (Int32 × nM)
  | 0, _, _, _ => none
  | n + 1, x1, x2, M =>
    n_chk (n_ib 8 x2) <|
    n_chk (n_ib 8 x1) <|
    if (M 147 x1.toNatClampNeg) ≤ (M 147 x2.toNatClampNeg) then
      n_chk (n_ib 8 x1) <|
      let v1 : Int32 := (M 147 x1.toNatClampNeg)
      n_chk (n_ib 8 x2) <|
      n_chk (n_ib 8 x1) <|
      let M2 : nM := n_up M 147 x1.toNatClampNeg (M 147 x2.toNatClampNeg)
      n_chk (n_ib 8 x2) <|
      let M3 : nM := n_up M2 147 x2.toNatClampNeg v1
      let v4 : Int32 := (x1 + (1 : Int32))
      fX12_goesToNextOrder_97 N N (7 : Int32) v4 M3
    else
      let v5 : Int32 := (x2 - (1 : Int32))
      fX12_goesToNextOrder_40 N n x1 v5 M
set_option maxRecDepth 200000 in
theorem bX12_goesToNextOrder_40 {l : Launch} {w : nW} (N : Nat) {G : nG} (hG : n_GOK G) : ∀ (n : Nat) (x1 : Int32) (x2 : Int32) (M : nM) (r : Int32 × nM), fX12_goesToNextOrder_40 N n x1 x2 M = some r → n_At l w 0 mX12_goesToNextOrder 40 [(0, .ref 107), (1, .int x1), (2, .int x2)] [] (G, M) (dv_i r.1, (G, r.2)) := by
  intro n
  induction n with
  | zero => intro x1 x2 M r h; cases (show (none : Option (Int32 × nM)) = some r from h)
  | succ n ih =>
    intro x1 x2 M r h
    exact n_seg (fin := n_fin dv_i G) (K := [(40, fun lv st M => n_lC 107 lv 0 (n_lI lv 1 (fun x1 => n_lI lv 2 (fun x2 => n_pE st (fX12_goesToNextOrder_40 N n x1 x2 M))))), (97, fun lv st M => n_lC 107 lv 0 (n_lI lv 4 (fun x4 => n_lI lv 5 (fun x5 => n_pE st (fX12_goesToNextOrder_97 N N x4 x5 M)))))]) 41 (iX12_goesToNextOrder N hG) (n_kc (fun lv st M r h => by
      obtain ⟨e0, h1⟩ := n_lC_x h
      obtain ⟨x1, e1, h2⟩ := n_lI_x h1
      obtain ⟨x2, e2, h3⟩ := n_lI_x h2
      obtain ⟨rfl, h4⟩ := n_pE_x h3
      exact n_sub (n_qc e0 (n_qc e1 (n_qc e2 n_qe))) (ih x1 x2 M r h4)) (n_kc (fun lv st M r h => by
      obtain ⟨e0, h1⟩ := n_lC_x h
      obtain ⟨x4, e4, h2⟩ := n_lI_x h1
      obtain ⟨x5, e5, h3⟩ := n_lI_x h2
      obtain ⟨rfl, h4⟩ := n_pE_x h3
      exact n_sub (n_qc e0 (n_qc e4 (n_qc e5 n_qe))) (bX12_goesToNextOrder_97 N hG N x4 x5 M r h4)) n_ke)) (by rfl) h
def fX12_goesToNextOrder_31 (N : Nat) (x1 : Int32) (M : nM) : Option (Int32 × nM) :=
  if 0 ≤ x1 then
    fX12_goesToNextOrder_40 N N x1 (7 : Int32) M
  else
    some ((0 : Int32), M)
set_option maxRecDepth 200000 in
theorem bX12_goesToNextOrder_31 {l : Launch} {w : nW} (N : Nat) {G : nG} (hG : n_GOK G) (x1 : Int32) (M : nM) (r : Int32 × nM) (h : fX12_goesToNextOrder_31 N x1 M = some r) : n_At l w 0 mX12_goesToNextOrder 31 [(0, .ref 107), (1, .int x1)] [] (G, M) (dv_i r.1, (G, r.2)) :=
  n_seg (fin := n_fin dv_i G) (K := [(40, fun lv st M => n_lC 107 lv 0 (n_lI lv 1 (fun x1 => n_lI lv 2 (fun x2 => n_pE st (fX12_goesToNextOrder_40 N N x1 x2 M)))))]) 9 (iX12_goesToNextOrder N hG) (n_kc (fun lv st M r h => by
      obtain ⟨e0, h1⟩ := n_lC_x h
      obtain ⟨x1, e1, h2⟩ := n_lI_x h1
      obtain ⟨x2, e2, h3⟩ := n_lI_x h2
      obtain ⟨rfl, h4⟩ := n_pE_x h3
      exact n_sub (n_qc e0 (n_qc e1 (n_qc e2 n_qe))) (bX12_goesToNextOrder_40 N hG N x1 x2 M r h4)) n_ke) (by rfl) h
def fX12_goesToNextOrder_3 (N : Nat) : Nat → Int32 → nM → Option (Int32 × nM)
  | 0, _, _ => none
  | n + 1, x1, M =>
    if x1 < 0 then
      fX12_goesToNextOrder_31 N x1 M
    else
      n_chk (n_ib 8 x1) <|
      n_chk (n_ib 8 (x1 + (1 : Int32))) <|
      if (M 147 x1.toNatClampNeg) ≤ (M 147 (x1 + (1 : Int32)).toNatClampNeg) then
        fX12_goesToNextOrder_31 N x1 M
      else
        let v1 : Int32 := (x1 - (1 : Int32))
        fX12_goesToNextOrder_3 N n v1 M
set_option maxRecDepth 200000 in
theorem bX12_goesToNextOrder_3 {l : Launch} {w : nW} (N : Nat) {G : nG} (hG : n_GOK G) : ∀ (n : Nat) (x1 : Int32) (M : nM) (r : Int32 × nM), fX12_goesToNextOrder_3 N n x1 M = some r → n_At l w 0 mX12_goesToNextOrder 3 [(0, .ref 107), (1, .int x1)] [] (G, M) (dv_i r.1, (G, r.2)) := by
  intro n
  induction n with
  | zero => intro x1 M r h; cases (show (none : Option (Int32 × nM)) = some r from h)
  | succ n ih =>
    intro x1 M r h
    exact n_seg (fin := n_fin dv_i G) (K := [(3, fun lv st M => n_lC 107 lv 0 (n_lI lv 1 (fun x1 => n_pE st (fX12_goesToNextOrder_3 N n x1 M)))), (31, fun lv st M => n_lC 107 lv 0 (n_lI lv 1 (fun x1 => n_pE st (fX12_goesToNextOrder_31 N x1 M))))]) 21 (iX12_goesToNextOrder N hG) (n_kc (fun lv st M r h => by
      obtain ⟨e0, h1⟩ := n_lC_x h
      obtain ⟨x1, e1, h2⟩ := n_lI_x h1
      obtain ⟨rfl, h3⟩ := n_pE_x h2
      exact n_sub (n_qc e0 (n_qc e1 n_qe)) (ih x1 M r h3)) (n_kc (fun lv st M r h => by
      obtain ⟨e0, h1⟩ := n_lC_x h
      obtain ⟨x1, e1, h2⟩ := n_lI_x h1
      obtain ⟨rfl, h3⟩ := n_pE_x h2
      exact n_sub (n_qc e0 (n_qc e1 n_qe)) (bX12_goesToNextOrder_31 N hG x1 M r h3)) n_ke)) (by rfl) h
def fX12_goesToNextOrder (N : Nat) (M : nM) : Option (Int32 × nM) :=
  fX12_goesToNextOrder_3 N N (6 : Int32) M
set_option maxRecDepth 200000 in
theorem bX12_goesToNextOrder_0 {l : Launch} {w : nW} (N : Nat) {G : nG} (hG : n_GOK G) (M : nM) (r : Int32 × nM) (h : fX12_goesToNextOrder N M = some r) : n_At l w 0 mX12_goesToNextOrder 0 [(0, .ref 107)] [] (G, M) (dv_i r.1, (G, r.2)) :=
  n_seg (fin := n_fin dv_i G) (K := [(3, fun lv st M => n_lC 107 lv 0 (n_lI lv 1 (fun x1 => n_pE st (fX12_goesToNextOrder_3 N N x1 M))))]) 5 (iX12_goesToNextOrder N hG) (n_kc (fun lv st M r h => by
      obtain ⟨e0, h1⟩ := n_lC_x h
      obtain ⟨x1, e1, h2⟩ := n_lI_x h1
      obtain ⟨rfl, h3⟩ := n_pE_x h2
      exact n_sub (n_qc e0 (n_qc e1 n_qe)) (bX12_goesToNextOrder_3 N hG N x1 M r h3)) n_ke) (by rfl) h
theorem eX12_goesToNextOrder {l : Launch} {w : nW} (N : Nat) {G : nG} (hG : n_GOK G) (M : nM) (r : Int32 × nM) (h : fX12_goesToNextOrder N M = some r) : n_Met l w 0 mX12_goesToNextOrder [.ref 107] (G, M) (dv_i r.1, (G, r.2)) :=
  n_entry (by decide +kernel) rfl (Nat.le_of_ble_eq_true rfl) (n_sub (lv := [(0, .ref 107)]) (n_qc rfl n_qe) (bX12_goesToNextOrder_0 N hG M r h))
abbrev hX12_goesToNextOrder (N : Nat) : nF := fun T as M k => n_pC 107 as (fun as => n_pE as ((fX12_goesToNextOrder N M).bind fun p => k (dv_i p.1) p.2))
theorem csX12_goesToNextOrder {l : Launch} {w : nW} (N : Nat) {G : nG} (hG : n_GOK G) : n_CS l w 0 mX12_goesToNextOrder G (hX12_goesToNextOrder N) := fun T as M k r h => by
  obtain ⟨t0, rfl, h1⟩ := n_pC_x h
  obtain ⟨rfl, hE⟩ := n_pE_x h1
  obtain ⟨p, hp, hk⟩ := Option.bind_eq_some_iff.mp hE
  exact ⟨_, _, eX12_goesToNextOrder N hG M p hp, hk⟩
/-! ===== SleightHouseModel.fits(I)I ===== -/
def mX12_fits : nY := (RX12, yX12_fits, cX12_fits, 6, some .int)
theorem okX12_fits : n_MOK mX12_fits 1 := ⟨w_2128, w_151, ⟨by decide +kernel, by decide +kernel, by decide +kernel⟩, by decide⟩
abbrev aX12_fits (N : Nat) : List (Nat × nO (Int32 × nM)) := [(0, o_aload 0 1), (1, o_push (.int (0 : Int32)) 2), (2, o_pIc 107 0 5), (5, o_aload 0 6), (6, o_iload 1 7), (7, o_push (.int (-1 : Int32)) 8), (8, o_push (.int (7 : Int32)) 10), (10, o_callVc 107 3 (hX12_isIn) 13), (13, oi_ne 18 16), (16, o_push (.int (-1 : Int32)) 17), (17, o_iret), (18, o_push (.int (0 : Int32)) 19), (19, o_istore 6 2 20), (20, o_iload 2 21), (21, o_push (.int (8 : Int32)) 23), (23, oc_ge 39 26), (26, o_aload 0 27), (27, o_gRc 107 147 30), (30, o_iload 2 31), (31, o_iload 2 32), (32, o_iastc 147 8 33), (33, o_inc 6 2 (1 : Int32) 36), (36, o_goto 20), (39, o_push (.int (0 : Int32)) 40), (40, o_istore 6 2 41), (41, o_push (.int (0 : Int32)) 42), (42, o_istore 6 3 43), (43, o_push (.int (1 : Int32)) 44), (44, o_istore 6 4 46), (46, o_iload 4 48), (48, oi_eq 87 51), (51, o_aload 0 52), (52, o_callVc 107 0 (hX12_doesFit N) 55), (55, oi_eq 78 58), (58, o_iload 2 59), (59, o_push (.int (1 : Int32)) 60), (60, o_iadd 61), (61, o_istore 6 2 62), (62, o_iload 1 63), (63, o_push (.int (-1 : Int32)) 64), (64, oc_eq 78 67), (67, o_iload 3 68), (68, o_push (.int (1 : Int32)) 69), (69, o_aload 0 70), (70, o_gRc 107 147 73), (73, o_iload 1 74), (74, o_aldc 147 8 75), (75, o_ishl 76), (76, o_ior 77), (77, o_istore 6 3 78), (78, o_aload 0 79), (79, o_callVc 107 0 (hX12_goesToNextOrder N) 82), (82, o_istore 6 4 84), (84, o_goto 46), (87, o_iload 1 88), (88, o_push (.int (-1 : Int32)) 89), (89, oc_ne 94 92), (92, o_iload 2 93), (93, o_iret), (94, o_push (.int (0 : Int32)) 95), (95, o_istore 6 5 97), (97, o_iload 5 99), (99, o_push (.int (8 : Int32)) 101), (101, oc_ge 121 104), (104, o_iload 3 105), (105, o_push (.int (1 : Int32)) 106), (106, o_iload 5 108), (108, o_ishl 109), (109, oc_ne 115 112), (112, o_iload 5 114), (114, o_iret), (115, o_inc 6 5 (1 : Int32) 118), (118, o_goto 97), (121, o_push (.int (-1 : Int32)) 122), (122, o_iret)]
set_option maxRecDepth 200000 in
theorem iX12_fits {l : Launch} {w : nW} (N : Nat) {G : nG} (hG : n_GOK G) : n_AllS l w 1 mX12_fits G (n_fin dv_i G) (aX12_fits N) :=
  n_c (s_aload_n (pc := 0) (k := 0) (by decide +kernel)) <|
  n_c (s_iconst (pc := 1) (n := 0) (by decide +kernel) (by decide +kernel)) <|
  n_c (s_pIc (s_putI (pc := 2) (ci := 12) (k := 0) (idx := 146) nok12 (by decide) rfl rfl (by decide +kernel) w_1407) (gk107 hG)) <|
  n_c (s_aload_n (pc := 5) (k := 0) (by decide +kernel)) <|
  n_c (s_iload_n (pc := 6) (k := 1) (by decide +kernel)) <|
  n_c (s_iconst (pc := 7) (n := -1) (by decide +kernel) (by decide +kernel)) <|
  n_c (s_bipush (pc := 8) (n := 7) (by decide +kernel) (by decide +kernel)) <|
  n_c (s_callVc (s_callV (pc := 10) (csX12_isIn) (by decide) okX12_isIn nok12 w_1659 w_46 w_1657 (by decide +kernel)) (gk107 hG)) <|
  n_c (s_if_ne (pc := 13) (off := 5) (by decide +kernel) (by decide +kernel)) <|
  n_c (s_iconst (pc := 16) (n := -1) (by decide +kernel) (by decide +kernel)) <|
  n_c (s_iret (pc := 17) rfl (by decide +kernel)) <|
  n_c (s_iconst (pc := 18) (n := 0) (by decide +kernel) (by decide +kernel)) <|
  n_c (s_istore_n (pc := 19) (k := 2) (by decide +kernel)) <|
  n_c (s_iload_n (pc := 20) (k := 2) (by decide +kernel)) <|
  n_c (s_bipush (pc := 21) (n := 8) (by decide +kernel) (by decide +kernel)) <|
  n_c (s_icmp_ge (pc := 23) (off := 16) (by decide +kernel) (by decide +kernel)) <|
  n_c (s_aload_n (pc := 26) (k := 0) (by decide +kernel)) <|
  n_c (s_gRc (s_getR (pc := 27) (ci := 12) (k := 69) (idx := 131) nok12 (by decide) rfl (by decide +kernel) w_1476) (gk107 hG) (gm107_69 hG)) <|
  n_c (s_iload_n (pc := 30) (k := 2) (by decide +kernel)) <|
  n_c (s_iload_n (pc := 31) (k := 2) (by decide +kernel)) <|
  n_c (s_iastc (s_iastore (pc := 32) (by decide +kernel)) (gk147 hG) (gl147 hG)) <|
  n_c (s_iinc (pc := 33) (n := 1) (by decide +kernel) (by decide +kernel)) <|
  n_c (s_goto (pc := 36) (off := -16) (by decide +kernel) (by decide +kernel)) <|
  n_c (s_iconst (pc := 39) (n := 0) (by decide +kernel) (by decide +kernel)) <|
  n_c (s_istore_n (pc := 40) (k := 2) (by decide +kernel)) <|
  n_c (s_iconst (pc := 41) (n := 0) (by decide +kernel) (by decide +kernel)) <|
  n_c (s_istore_n (pc := 42) (k := 3) (by decide +kernel)) <|
  n_c (s_iconst (pc := 43) (n := 1) (by decide +kernel) (by decide +kernel)) <|
  n_c (s_istore (pc := 44) (by decide +kernel)) <|
  n_c (s_iload (pc := 46) (by decide +kernel)) <|
  n_c (s_if_eq (pc := 48) (off := 39) (by decide +kernel) (by decide +kernel)) <|
  n_c (s_aload_n (pc := 51) (k := 0) (by decide +kernel)) <|
  n_c (s_callVc (s_callV (pc := 52) (csX12_doesFit N hG) (by decide) okX12_doesFit nok12 w_2131 w_127 w_2129 (by decide +kernel)) (gk107 hG)) <|
  n_c (s_if_eq (pc := 55) (off := 23) (by decide +kernel) (by decide +kernel)) <|
  n_c (s_iload_n (pc := 58) (k := 2) (by decide +kernel)) <|
  n_c (s_iconst (pc := 59) (n := 1) (by decide +kernel) (by decide +kernel)) <|
  n_c (s_iadd (pc := 60) (by decide +kernel)) <|
  n_c (s_istore_n (pc := 61) (k := 2) (by decide +kernel)) <|
  n_c (s_iload_n (pc := 62) (k := 1) (by decide +kernel)) <|
  n_c (s_iconst (pc := 63) (n := -1) (by decide +kernel) (by decide +kernel)) <|
  n_c (s_icmp_eq (pc := 64) (off := 14) (by decide +kernel) (by decide +kernel)) <|
  n_c (s_iload_n (pc := 67) (k := 3) (by decide +kernel)) <|
  n_c (s_iconst (pc := 68) (n := 1) (by decide +kernel) (by decide +kernel)) <|
  n_c (s_aload_n (pc := 69) (k := 0) (by decide +kernel)) <|
  n_c (s_gRc (s_getR (pc := 70) (ci := 12) (k := 69) (idx := 131) nok12 (by decide) rfl (by decide +kernel) w_1476) (gk107 hG) (gm107_69 hG)) <|
  n_c (s_iload_n (pc := 73) (k := 1) (by decide +kernel)) <|
  n_c (s_aldc (s_iaload (pc := 74) (by decide +kernel)) (gk147 hG) (gl147 hG)) <|
  n_c (s_ishl (pc := 75) (by decide +kernel)) <|
  n_c (s_ior (pc := 76) (by decide +kernel)) <|
  n_c (s_istore_n (pc := 77) (k := 3) (by decide +kernel)) <|
  n_c (s_aload_n (pc := 78) (k := 0) (by decide +kernel)) <|
  n_c (s_callVc (s_callV (pc := 79) (csX12_goesToNextOrder N hG) (by decide) okX12_goesToNextOrder nok12 w_2135 w_128 w_2133 (by decide +kernel)) (gk107 hG)) <|
  n_c (s_istore (pc := 82) (by decide +kernel)) <|
  n_c (s_goto (pc := 84) (off := -38) (by decide +kernel) (by decide +kernel)) <|
  n_c (s_iload_n (pc := 87) (k := 1) (by decide +kernel)) <|
  n_c (s_iconst (pc := 88) (n := -1) (by decide +kernel) (by decide +kernel)) <|
  n_c (s_icmp_ne (pc := 89) (off := 5) (by decide +kernel) (by decide +kernel)) <|
  n_c (s_iload_n (pc := 92) (k := 2) (by decide +kernel)) <|
  n_c (s_iret (pc := 93) rfl (by decide +kernel)) <|
  n_c (s_iconst (pc := 94) (n := 0) (by decide +kernel) (by decide +kernel)) <|
  n_c (s_istore (pc := 95) (by decide +kernel)) <|
  n_c (s_iload (pc := 97) (by decide +kernel)) <|
  n_c (s_bipush (pc := 99) (n := 8) (by decide +kernel) (by decide +kernel)) <|
  n_c (s_icmp_ge (pc := 101) (off := 20) (by decide +kernel) (by decide +kernel)) <|
  n_c (s_iload_n (pc := 104) (k := 3) (by decide +kernel)) <|
  n_c (s_iconst (pc := 105) (n := 1) (by decide +kernel) (by decide +kernel)) <|
  n_c (s_iload (pc := 106) (by decide +kernel)) <|
  n_c (s_ishl (pc := 108) (by decide +kernel)) <|
  n_c (s_icmp_ne (pc := 109) (off := 6) (by decide +kernel) (by decide +kernel)) <|
  n_c (s_iload (pc := 112) (by decide +kernel)) <|
  n_c (s_iret (pc := 114) rfl (by decide +kernel)) <|
  n_c (s_iinc (pc := 115) (n := 1) (by decide +kernel) (by decide +kernel)) <|
  n_c (s_goto (pc := 118) (off := -21) (by decide +kernel) (by decide +kernel)) <|
  n_c (s_iconst (pc := 121) (n := -1) (by decide +kernel) (by decide +kernel)) <|
  n_c (s_iret (pc := 122) rfl (by decide +kernel)) <|
  n_e
def fX12_fits_78 (N : Nat) (k46 : Int32 → Int32 → Int32 → Int32 → nM → Option (Int32 × nM)) (x1 : Int32) (x2 : Int32) (x3 : Int32) (M : nM) : Option (Int32 × nM) :=
  (fX12_goesToNextOrder N M).bind fun p1 =>
  k46 x1 x2 x3 p1.1 p1.2
set_option maxRecDepth 200000 in
theorem bX12_fits_78 {l : Launch} {w : nW} (N : Nat) {G : nG} (hG : n_GOK G) (k46 : Int32 → Int32 → Int32 → Int32 → nM → Option (Int32 × nM)) (hk46 : ∀ (x1 : Int32) (x2 : Int32) (x3 : Int32) (x4 : Int32) (M : nM) (r : Int32 × nM), k46 x1 x2 x3 x4 M = some r → n_At l w 1 mX12_fits 46 [(0, .ref 107), (1, .int x1), (2, .int x2), (3, .int x3), (4, .int x4)] [] (G, M) (dv_i r.1, (G, r.2))) (x1 : Int32) (x2 : Int32) (x3 : Int32) (M : nM) (r : Int32 × nM) (h : fX12_fits_78 N k46 x1 x2 x3 M = some r) : n_At l w 1 mX12_fits 78 [(0, .ref 107), (1, .int x1), (2, .int x2), (3, .int x3)] [] (G, M) (dv_i r.1, (G, r.2)) :=
  n_seg (fin := n_fin dv_i G) (K := [(46, fun lv st M => n_lC 107 lv 0 (n_lI lv 1 (fun x1 => n_lI lv 2 (fun x2 => n_lI lv 3 (fun x3 => n_lI lv 4 (fun x4 => n_pE st (k46 x1 x2 x3 x4 M)))))))]) 7 (iX12_fits N hG) (n_kc (fun lv st M r h => by
      obtain ⟨e0, h1⟩ := n_lC_x h
      obtain ⟨x1, e1, h2⟩ := n_lI_x h1
      obtain ⟨x2, e2, h3⟩ := n_lI_x h2
      obtain ⟨x3, e3, h4⟩ := n_lI_x h3
      obtain ⟨x4, e4, h5⟩ := n_lI_x h4
      obtain ⟨rfl, h6⟩ := n_pE_x h5
      exact n_sub (n_qc e0 (n_qc e1 (n_qc e2 (n_qc e3 (n_qc e4 n_qe))))) (hk46 x1 x2 x3 x4 M r h6)) n_ke) (by rfl) h
def fX12_fits_97 (N : Nat) : Nat → Int32 → Int32 → nM → Option (Int32 × nM)
  | 0, _, _, _ => none
  | n + 1, x3, x5, M =>
    if (8 : Int32) ≤ x5 then
      some ((-1 : Int32), M)
    else
      if ¬ x3 = ((1 : Int32) <<< (x5 &&& 31)) then
        let v1 : Int32 := (x5 + (1 : Int32))
        fX12_fits_97 N n x3 v1 M
      else
        some (x5, M)
set_option maxRecDepth 200000 in
theorem bX12_fits_97 {l : Launch} {w : nW} (N : Nat) {G : nG} (hG : n_GOK G) : ∀ (n : Nat) (x3 : Int32) (x5 : Int32) (M : nM) (r : Int32 × nM), fX12_fits_97 N n x3 x5 M = some r → n_At l w 1 mX12_fits 97 [(3, .int x3), (5, .int x5)] [] (G, M) (dv_i r.1, (G, r.2)) := by
  intro n
  induction n with
  | zero => intro x3 x5 M r h; cases (show (none : Option (Int32 × nM)) = some r from h)
  | succ n ih =>
    intro x3 x5 M r h
    exact n_seg (fin := n_fin dv_i G) (K := [(97, fun lv st M => n_lI lv 3 (fun x3 => n_lI lv 5 (fun x5 => n_pE st (fX12_fits_97 N n x3 x5 M))))]) 17 (iX12_fits N hG) (n_kc (fun lv st M r h => by
      obtain ⟨x3, e3, h1⟩ := n_lI_x h
      obtain ⟨x5, e5, h2⟩ := n_lI_x h1
      obtain ⟨rfl, h3⟩ := n_pE_x h2
      exact n_sub (n_qc e3 (n_qc e5 n_qe)) (ih x3 x5 M r h3)) n_ke) (by rfl) h
def fX12_fits_46 (N : Nat) : Nat → Int32 → Int32 → Int32 → Int32 → nM → Option (Int32 × nM)
  | 0, _, _, _, _, _ => none
  | n + 1, x1, x2, x3, x4, M =>
    if x4 = 0 then
      if ¬ x1 = (-1 : Int32) then
        fX12_fits_97 N N x3 (0 : Int32) M
      else
        some (x2, M)
    else
      (fX12_doesFit N M).bind fun p1 =>
      if p1.1 = 0 then
        fX12_fits_78 N (fun x1 x2 x3 x4 M => fX12_fits_46 N n x1 x2 x3 x4 M) x1 x2 x3 p1.2
      else
        let v2 : Int32 := (x2 + (1 : Int32))
        if x1 = (-1 : Int32) then
          fX12_fits_78 N (fun x1 x2 x3 x4 M => fX12_fits_46 N n x1 x2 x3 x4 M) x1 v2 x3 p1.2
        else
          n_chk (n_ib 8 x1) <|
          let v3 : Int32 := (x3 ||| ((1 : Int32) <<< ((p1.2 147 x1.toNatClampNeg) &&& 31)))
          fX12_fits_78 N (fun x1 x2 x3 x4 M => fX12_fits_46 N n x1 x2 x3 x4 M) x1 v2 v3 p1.2
set_option maxRecDepth 200000 in
theorem bX12_fits_46 {l : Launch} {w : nW} (N : Nat) {G : nG} (hG : n_GOK G) : ∀ (n : Nat) (x1 : Int32) (x2 : Int32) (x3 : Int32) (x4 : Int32) (M : nM) (r : Int32 × nM), fX12_fits_46 N n x1 x2 x3 x4 M = some r → n_At l w 1 mX12_fits 46 [(0, .ref 107), (1, .int x1), (2, .int x2), (3, .int x3), (4, .int x4)] [] (G, M) (dv_i r.1, (G, r.2)) := by
  intro n
  induction n with
  | zero => intro x1 x2 x3 x4 M r h; cases (show (none : Option (Int32 × nM)) = some r from h)
  | succ n ih =>
    intro x1 x2 x3 x4 M r h
    exact n_seg (fin := n_fin dv_i G) (K := [(78, fun lv st M => n_lC 107 lv 0 (n_lI lv 1 (fun x1 => n_lI lv 2 (fun x2 => n_lI lv 3 (fun x3 => n_pE st (fX12_fits_78 N (fun x1 x2 x3 x4 M => fX12_fits_46 N n x1 x2 x3 x4 M) x1 x2 x3 M)))))), (97, fun lv st M => n_lI lv 3 (fun x3 => n_lI lv 5 (fun x5 => n_pE st (fX12_fits_97 N N x3 x5 M))))]) 31 (iX12_fits N hG) (n_kc (fun lv st M r h => by
      obtain ⟨e0, h1⟩ := n_lC_x h
      obtain ⟨x1, e1, h2⟩ := n_lI_x h1
      obtain ⟨x2, e2, h3⟩ := n_lI_x h2
      obtain ⟨x3, e3, h4⟩ := n_lI_x h3
      obtain ⟨rfl, h5⟩ := n_pE_x h4
      exact n_sub (n_qc e0 (n_qc e1 (n_qc e2 (n_qc e3 n_qe)))) (bX12_fits_78 N hG (fun x1 x2 x3 x4 M => fX12_fits_46 N n x1 x2 x3 x4 M) ih x1 x2 x3 M r h5)) (n_kc (fun lv st M r h => by
      obtain ⟨x3, e3, h1⟩ := n_lI_x h
      obtain ⟨x5, e5, h2⟩ := n_lI_x h1
      obtain ⟨rfl, h3⟩ := n_pE_x h2
      exact n_sub (n_qc e3 (n_qc e5 n_qe)) (bX12_fits_97 N hG N x3 x5 M r h3)) n_ke)) (by rfl) h
def fX12_fits_20 (N : Nat) : Nat → Int32 → Int32 → nM → Option (Int32 × nM)
  | 0, _, _, _ => none
  | n + 1, x1, x2, M =>
    if (8 : Int32) ≤ x2 then
      fX12_fits_46 N N x1 (0 : Int32) (0 : Int32) (1 : Int32) M
    else
      n_chk (n_ib 8 x2) <|
      let M1 : nM := n_up M 147 x2.toNatClampNeg x2
      let v2 : Int32 := (x2 + (1 : Int32))
      fX12_fits_20 N n x1 v2 M1
set_option maxRecDepth 200000 in
theorem bX12_fits_20 {l : Launch} {w : nW} (N : Nat) {G : nG} (hG : n_GOK G) : ∀ (n : Nat) (x1 : Int32) (x2 : Int32) (M : nM) (r : Int32 × nM), fX12_fits_20 N n x1 x2 M = some r → n_At l w 1 mX12_fits 20 [(0, .ref 107), (1, .int x1), (2, .int x2)] [] (G, M) (dv_i r.1, (G, r.2)) := by
  intro n
  induction n with
  | zero => intro x1 x2 M r h; cases (show (none : Option (Int32 × nM)) = some r from h)
  | succ n ih =>
    intro x1 x2 M r h
    exact n_seg (fin := n_fin dv_i G) (K := [(20, fun lv st M => n_lC 107 lv 0 (n_lI lv 1 (fun x1 => n_lI lv 2 (fun x2 => n_pE st (fX12_fits_20 N n x1 x2 M))))), (46, fun lv st M => n_lC 107 lv 0 (n_lI lv 1 (fun x1 => n_lI lv 2 (fun x2 => n_lI lv 3 (fun x3 => n_lI lv 4 (fun x4 => n_pE st (fX12_fits_46 N N x1 x2 x3 x4 M)))))))]) 19 (iX12_fits N hG) (n_kc (fun lv st M r h => by
      obtain ⟨e0, h1⟩ := n_lC_x h
      obtain ⟨x1, e1, h2⟩ := n_lI_x h1
      obtain ⟨x2, e2, h3⟩ := n_lI_x h2
      obtain ⟨rfl, h4⟩ := n_pE_x h3
      exact n_sub (n_qc e0 (n_qc e1 (n_qc e2 n_qe))) (ih x1 x2 M r h4)) (n_kc (fun lv st M r h => by
      obtain ⟨e0, h1⟩ := n_lC_x h
      obtain ⟨x1, e1, h2⟩ := n_lI_x h1
      obtain ⟨x2, e2, h3⟩ := n_lI_x h2
      obtain ⟨x3, e3, h4⟩ := n_lI_x h3
      obtain ⟨x4, e4, h5⟩ := n_lI_x h4
      obtain ⟨rfl, h6⟩ := n_pE_x h5
      exact n_sub (n_qc e0 (n_qc e1 (n_qc e2 (n_qc e3 (n_qc e4 n_qe))))) (bX12_fits_46 N hG N x1 x2 x3 x4 M r h6)) n_ke)) (by rfl) h
def fX12_fits (N : Nat) (x1 : Int32) (M : nM) : Option (Int32 × nM) :=
  let M1 : nM := n_up M 107 0 (0 : Int32)
  (fX12_isIn x1 (-1 : Int32) (7 : Int32) M1).bind fun p2 =>
  if ¬ p2.1 = 0 then
    fX12_fits_20 N N x1 (0 : Int32) p2.2
  else
    some ((-1 : Int32), p2.2)
set_option maxRecDepth 200000 in
theorem bX12_fits_0 {l : Launch} {w : nW} (N : Nat) {G : nG} (hG : n_GOK G) (x1 : Int32) (M : nM) (r : Int32 × nM) (h : fX12_fits N x1 M = some r) : n_At l w 1 mX12_fits 0 [(0, .ref 107), (1, .int x1)] [] (G, M) (dv_i r.1, (G, r.2)) :=
  n_seg (fin := n_fin dv_i G) (K := [(20, fun lv st M => n_lC 107 lv 0 (n_lI lv 1 (fun x1 => n_lI lv 2 (fun x2 => n_pE st (fX12_fits_20 N N x1 x2 M)))))]) 16 (iX12_fits N hG) (n_kc (fun lv st M r h => by
      obtain ⟨e0, h1⟩ := n_lC_x h
      obtain ⟨x1, e1, h2⟩ := n_lI_x h1
      obtain ⟨x2, e2, h3⟩ := n_lI_x h2
      obtain ⟨rfl, h4⟩ := n_pE_x h3
      exact n_sub (n_qc e0 (n_qc e1 (n_qc e2 n_qe))) (bX12_fits_20 N hG N x1 x2 M r h4)) n_ke) (by rfl) h
theorem eX12_fits {l : Launch} {w : nW} (N : Nat) {G : nG} (hG : n_GOK G) (z1 : Int32) (M : nM) (r : Int32 × nM) (h : fX12_fits N z1 M = some r) : n_Met l w 1 mX12_fits [.ref 107, .int z1] (G, M) (dv_i r.1, (G, r.2)) :=
  n_entry (by decide +kernel) rfl (Nat.le_of_ble_eq_true rfl) (n_sub (lv := [(0, .ref 107), (1, .int z1)]) (n_qc rfl (n_qc rfl n_qe)) (bX12_fits_0 N hG z1 M r h))
abbrev hX12_fits (N : Nat) : nF := fun T as M k => n_pC 107 as (fun as => n_pI as (fun z1 as => n_pE as ((fX12_fits N z1 M).bind fun p => k (dv_i p.1) p.2)))
theorem csX12_fits {l : Launch} {w : nW} (N : Nat) {G : nG} (hG : n_GOK G) : n_CS l w 1 mX12_fits G (hX12_fits N) := fun T as M k r h => by
  obtain ⟨t0, rfl, h1⟩ := n_pC_x h
  obtain ⟨z1, t1, rfl, h2⟩ := n_pI_x h1
  obtain ⟨rfl, hE⟩ := n_pE_x h2
  obtain ⟨p, hp, hk⟩ := Option.bind_eq_some_iff.mp hE
  exact ⟨_, _, eX12_fits N hG z1 M p hp, hk⟩
/-! ===== SleightHouse.share(I)I ===== -/
def mX11_share : nY := (RX11, yX11_share, cX11_share, 2, some .int)
theorem okX11_share : n_MOK mX11_share 1 := ⟨w_1342, w_137, ⟨by decide +kernel, by decide +kernel, by decide +kernel⟩, by decide⟩
abbrev aX11_share (G : nG) : List (Nat × nO (Int32 × nM)) := [(0, o_iload 1 1), (1, o_push (.int (-1 : Int32)) 2), (2, oc_ne 19 5), (5, o_aload 0 6), (6, o_gRc 1 2 9), (9, o_gRc 2 28 12), (12, o_gRc 28 39 15), (15, o_callVc 39 0 (hX7_clear G) 18), (18, o_iret), (19, o_iload 1 20), (20, o_push (.int (1 : Int32)) 21), (21, o_push (.int (30 : Int32)) 23), (23, o_call 3 (hX11_within) 26), (26, oi_eq 49 29), (29, o_aload 0 30), (30, o_gRc 1 2 33), (33, o_gRc 2 28 36), (36, o_gRc 28 39 39), (39, o_iload 1 40), (40, o_push (.int (0 : Int32)) 41), (41, o_push (.int (0 : Int32)) 42), (42, o_push (.int (0 : Int32)) 43), (43, o_callVc 39 4 (hX7_add G) 46), (46, o_goto 50), (49, o_push (.int (-1 : Int32)) 50), (50, o_iret)]
set_option maxRecDepth 200000 in
theorem iX11_share {l : Launch} {w : nW} {G : nG} (hG : n_GOK G) : n_AllS l w 2 mX11_share G (n_fin dv_i G) (aX11_share G) :=
  n_c (s_iload_n (pc := 0) (k := 1) (by decide +kernel)) <|
  n_c (s_iconst (pc := 1) (n := -1) (by decide +kernel) (by decide +kernel)) <|
  n_c (s_icmp_ne (pc := 2) (off := 17) (by decide +kernel) (by decide +kernel)) <|
  n_c (s_aload_n (pc := 5) (k := 0) (by decide +kernel)) <|
  n_c (s_gRc (s_getR (pc := 6) (ci := 11) (k := 0) (idx := 10) nok11 (by decide) rfl (by decide +kernel) w_572) (gk1 hG) (gm1_0 hG)) <|
  n_c (s_gRc (s_getR (pc := 9) (ci := 1) (k := 7) (idx := 56) nok1 (by decide) rfl (by decide +kernel) w_421) (gk2 hG) (gm2_7 hG)) <|
  n_c (s_gRc (s_getR (pc := 12) (ci := 10) (k := 5) (idx := 390) nok10 (by decide) rfl (by decide +kernel) w_374) (gk28 hG) (gm28_5 hG)) <|
  n_c (s_callVc (s_callV (pc := 15) (csX7_clear) (by decide) okX7_clear nok7 w_962 w_963 w_1129 (by decide +kernel)) (gk39 hG)) <|
  n_c (s_iret (pc := 18) rfl (by decide +kernel)) <|
  n_c (s_iload_n (pc := 19) (k := 1) (by decide +kernel)) <|
  n_c (s_iconst (pc := 20) (n := 1) (by decide +kernel) (by decide +kernel)) <|
  n_c (s_bipush (pc := 21) (n := 30) (by decide +kernel) (by decide +kernel)) <|
  n_c (s_callS (pc := 23) (csX11_within) (by decide) okX11_within w_610 w_609 (by decide +kernel)) <|
  n_c (s_if_eq (pc := 26) (off := 23) (by decide +kernel) (by decide +kernel)) <|
  n_c (s_aload_n (pc := 29) (k := 0) (by decide +kernel)) <|
  n_c (s_gRc (s_getR (pc := 30) (ci := 11) (k := 0) (idx := 10) nok11 (by decide) rfl (by decide +kernel) w_572) (gk1 hG) (gm1_0 hG)) <|
  n_c (s_gRc (s_getR (pc := 33) (ci := 1) (k := 7) (idx := 56) nok1 (by decide) rfl (by decide +kernel) w_421) (gk2 hG) (gm2_7 hG)) <|
  n_c (s_gRc (s_getR (pc := 36) (ci := 10) (k := 5) (idx := 390) nok10 (by decide) rfl (by decide +kernel) w_374) (gk28 hG) (gm28_5 hG)) <|
  n_c (s_iload_n (pc := 39) (k := 1) (by decide +kernel)) <|
  n_c (s_iconst (pc := 40) (n := 0) (by decide +kernel) (by decide +kernel)) <|
  n_c (s_iconst (pc := 41) (n := 0) (by decide +kernel) (by decide +kernel)) <|
  n_c (s_iconst (pc := 42) (n := 0) (by decide +kernel) (by decide +kernel)) <|
  n_c (s_callVc (s_callV (pc := 43) (csX7_add) (by decide) okX7_add nok7 w_1030 w_1031 w_1130 (by decide +kernel)) (gk39 hG)) <|
  n_c (s_goto (pc := 46) (off := 4) (by decide +kernel) (by decide +kernel)) <|
  n_c (s_iconst (pc := 49) (n := -1) (by decide +kernel) (by decide +kernel)) <|
  n_c (s_iret (pc := 50) rfl (by decide +kernel)) <|
  n_e
def fX11_share (G : nG) (x1 : Int32) (M : nM) : Option (Int32 × nM) :=
  if ¬ x1 = (-1 : Int32) then
    (fX11_within x1 (1 : Int32) (30 : Int32) M).bind fun p1 =>
    if p1.1 = 0 then
      some ((-1 : Int32), p1.2)
    else
      (fX7_add G 39 x1 (0 : Int32) (0 : Int32) (0 : Int32) p1.2).bind fun p2 =>
      some (p2.1, p2.2)
  else
    (fX7_clear G 39 M).bind fun p3 =>
    some (p3.1, p3.2)
set_option maxRecDepth 200000 in
theorem bX11_share_0 {l : Launch} {w : nW} {G : nG} (hG : n_GOK G) (x1 : Int32) (M : nM) (r : Int32 × nM) (h : fX11_share G x1 M = some r) : n_At l w 2 mX11_share 0 [(0, .ref 1), (1, .int x1)] [] (G, M) (dv_i r.1, (G, r.2)) :=
  n_seg (fin := n_fin dv_i G) (K := []) 30 (iX11_share hG) n_ke (by rfl) h
theorem eX11_share {l : Launch} {w : nW} {G : nG} (hG : n_GOK G) (z1 : Int32) (M : nM) (r : Int32 × nM) (h : fX11_share G z1 M = some r) : n_Met l w 2 mX11_share [.ref 1, .int z1] (G, M) (dv_i r.1, (G, r.2)) :=
  n_entry (by decide +kernel) rfl (Nat.le_of_ble_eq_true rfl) (n_sub (lv := [(0, .ref 1), (1, .int z1)]) (n_qc rfl (n_qc rfl n_qe)) (bX11_share_0 hG z1 M r h))
abbrev hX11_share (G : nG) : nF := fun T as M k => n_pC 1 as (fun as => n_pI as (fun z1 as => n_pE as ((fX11_share G z1 M).bind fun p => k (dv_i p.1) p.2)))
theorem csX11_share {l : Launch} {w : nW} {G : nG} (hG : n_GOK G) : n_CS l w 2 mX11_share G (hX11_share G) := fun T as M k r h => by
  obtain ⟨t0, rfl, h1⟩ := n_pC_x h
  obtain ⟨z1, t1, rfl, h2⟩ := n_pI_x h1
  obtain ⟨rfl, hE⟩ := n_pE_x h2
  obtain ⟨p, hp, hk⟩ := Option.bind_eq_some_iff.mp hE
  exact ⟨_, _, eX11_share hG z1 M p hp, hk⟩
