/-! ===== SleightHouseModel.<init>()V ===== -/
def mX12_init : nY := (RX12, yX12_init, cX12_init, 1, none)
theorem okX12_init : n_MOK mX12_init 0 := ⟨w_1405, w_151, ⟨by decide +kernel, by decide +kernel, by decide +kernel⟩, by decide⟩
abbrev aX12_init_0 : List (Nat × nD (Unit × nH)) := [(0, o_up (fun G => o_aload 0 1)), (1, o_up (fun G => o_objI 4)), (4, o_up (fun G => o_aload 0 5)), (5, o_up (fun G => o_push (.int (100 : Int32)) 7)), (7, o_newa 14 4 9), (9, o_putR 12 1 12), (12, o_up (fun G => o_aload 0 13)), (13, o_up (fun G => o_push (.int (600 : Int32)) 16)), (16, o_newa 14 4 18), (18, o_putR 12 2 21), (21, o_up (fun G => o_aload 0 22)), (22, o_up (fun G => o_push (.int (100 : Int32)) 24)), (24, o_newa 14 4 26), (26, o_putR 12 4 29), (29, o_up (fun G => o_aload 0 30)), (30, o_up (fun G => o_push (.int (12 : Int32)) 32)), (32, o_newa 14 4 34), (34, o_putR 12 8 37), (37, o_up (fun G => o_aload 0 38)), (38, o_up (fun G => o_push (.int (16 : Int32)) 40)), (40, o_newa 14 4 42), (42, o_putR 12 9 45), (45, o_up (fun G => o_aload 0 46)), (46, o_up (fun G => o_push (.int (16 : Int32)) 48)), (48, o_newa 14 4 50), (50, o_putR 12 10 53), (53, o_up (fun G => o_aload 0 54)), (54, o_up (fun G => o_push (.int (12 : Int32)) 56)), (56, o_newa 14 4 58), (58, o_putR 12 11 61), (61, o_up (fun G => o_aload 0 62)), (62, o_up (fun G => o_push (.int (12 : Int32)) 64)), (64, o_newa 14 4 66), (66, o_putR 12 12 69), (69, o_up (fun G => o_aload 0 70)), (70, o_up (fun G => o_push (.int (600 : Int32)) 73)), (73, o_newa 14 4 75), (75, o_putR 12 13 78), (78, o_up (fun G => o_aload 0 79)), (79, o_up (fun G => o_push (.int (400 : Int32)) 82))]
set_option maxRecDepth 200000 in
theorem iX12_init_0 {l : Launch} {w : nW} : n_AllD l w 0 mX12_init (fun r => (dv_v r.1, r.2)) (aX12_init_0) :=
  n_cd (s_up fun G => s_aload_n (pc := 0) (k := 0) (by decide +kernel)) <|
  n_cd (s_up fun G => s_objI (pc := 1) w_1406 w_165 w_166 (by decide +kernel)) <|
  n_cd (s_up fun G => s_aload_n (pc := 4) (k := 0) (by decide +kernel)) <|
  n_cd (s_up fun G => s_bipush (pc := 5) (n := 100) (by decide +kernel) (by decide +kernel)) <|
  n_cd (s_newI (pc := 7) w_221 (by decide +kernel)) <|
  n_cd (s_putRF (pc := 9) (ci := 12) (k := 1) (idx := 7) nok12 (by decide) rfl rfl rfl rfl (by decide +kernel) w_1408) <|
  n_cd (s_up fun G => s_aload_n (pc := 12) (k := 0) (by decide +kernel)) <|
  n_cd (s_up fun G => s_sipush (pc := 13) (n := 600) (by decide +kernel) (by decide +kernel)) <|
  n_cd (s_newI (pc := 16) w_221 (by decide +kernel)) <|
  n_cd (s_putRF (pc := 18) (ci := 12) (k := 2) (idx := 13) nok12 (by decide) rfl rfl rfl rfl (by decide +kernel) w_1409) <|
  n_cd (s_up fun G => s_aload_n (pc := 21) (k := 0) (by decide +kernel)) <|
  n_cd (s_up fun G => s_bipush (pc := 22) (n := 100) (by decide +kernel) (by decide +kernel)) <|
  n_cd (s_newI (pc := 24) w_221 (by decide +kernel)) <|
  n_cd (s_putRF (pc := 26) (ci := 12) (k := 4) (idx := 16) nok12 (by decide) rfl rfl rfl rfl (by decide +kernel) w_1411) <|
  n_cd (s_up fun G => s_aload_n (pc := 29) (k := 0) (by decide +kernel)) <|
  n_cd (s_up fun G => s_bipush (pc := 30) (n := 12) (by decide +kernel) (by decide +kernel)) <|
  n_cd (s_newI (pc := 32) w_221 (by decide +kernel)) <|
  n_cd (s_putRF (pc := 34) (ci := 12) (k := 8) (idx := 19) nok12 (by decide) rfl rfl rfl rfl (by decide +kernel) w_1415) <|
  n_cd (s_up fun G => s_aload_n (pc := 37) (k := 0) (by decide +kernel)) <|
  n_cd (s_up fun G => s_bipush (pc := 38) (n := 16) (by decide +kernel) (by decide +kernel)) <|
  n_cd (s_newI (pc := 40) w_221 (by decide +kernel)) <|
  n_cd (s_putRF (pc := 42) (ci := 12) (k := 9) (idx := 22) nok12 (by decide) rfl rfl rfl rfl (by decide +kernel) w_1416) <|
  n_cd (s_up fun G => s_aload_n (pc := 45) (k := 0) (by decide +kernel)) <|
  n_cd (s_up fun G => s_bipush (pc := 46) (n := 16) (by decide +kernel) (by decide +kernel)) <|
  n_cd (s_newI (pc := 48) w_221 (by decide +kernel)) <|
  n_cd (s_putRF (pc := 50) (ci := 12) (k := 10) (idx := 25) nok12 (by decide) rfl rfl rfl rfl (by decide +kernel) w_1417) <|
  n_cd (s_up fun G => s_aload_n (pc := 53) (k := 0) (by decide +kernel)) <|
  n_cd (s_up fun G => s_bipush (pc := 54) (n := 12) (by decide +kernel) (by decide +kernel)) <|
  n_cd (s_newI (pc := 56) w_221 (by decide +kernel)) <|
  n_cd (s_putRF (pc := 58) (ci := 12) (k := 11) (idx := 28) nok12 (by decide) rfl rfl rfl rfl (by decide +kernel) w_1418) <|
  n_cd (s_up fun G => s_aload_n (pc := 61) (k := 0) (by decide +kernel)) <|
  n_cd (s_up fun G => s_bipush (pc := 62) (n := 12) (by decide +kernel) (by decide +kernel)) <|
  n_cd (s_newI (pc := 64) w_221 (by decide +kernel)) <|
  n_cd (s_putRF (pc := 66) (ci := 12) (k := 12) (idx := 31) nok12 (by decide) rfl rfl rfl rfl (by decide +kernel) w_1419) <|
  n_cd (s_up fun G => s_aload_n (pc := 69) (k := 0) (by decide +kernel)) <|
  n_cd (s_up fun G => s_sipush (pc := 70) (n := 600) (by decide +kernel) (by decide +kernel)) <|
  n_cd (s_newI (pc := 73) w_221 (by decide +kernel)) <|
  n_cd (s_putRF (pc := 75) (ci := 12) (k := 13) (idx := 34) nok12 (by decide) rfl rfl rfl rfl (by decide +kernel) w_1420) <|
  n_cd (s_up fun G => s_aload_n (pc := 78) (k := 0) (by decide +kernel)) <|
  n_cd (s_up fun G => s_sipush (pc := 79) (n := 400) (by decide +kernel) (by decide +kernel)) <|
  n_ed
abbrev aX12_init_1 : List (Nat × nD (Unit × nH)) := [(82, o_newa 14 4 84), (84, o_putR 12 14 87), (87, o_up (fun G => o_aload 0 88)), (88, o_up (fun G => o_push (.int (145 : Int32)) 91)), (91, o_newa 14 4 93), (93, o_up (fun G => o_dup 94)), (94, o_up (fun G => o_push (.int (0 : Int32)) 95)), (95, o_up (fun G => o_push (.int (32 : Int32)) 97)), (97, o_up (fun G => o_iastore G 98)), (98, o_up (fun G => o_dup 99)), (99, o_up (fun G => o_push (.int (1 : Int32)) 100)), (100, o_up (fun G => o_push (.int (112 : Int32)) 102)), (102, o_up (fun G => o_iastore G 103)), (103, o_up (fun G => o_dup 104)), (104, o_up (fun G => o_push (.int (2 : Int32)) 105)), (105, o_up (fun G => o_push (.int (97 : Int32)) 107)), (107, o_up (fun G => o_iastore G 108)), (108, o_up (fun G => o_dup 109)), (109, o_up (fun G => o_push (.int (3 : Int32)) 110)), (110, o_up (fun G => o_push (.int (108 : Int32)) 112)), (112, o_up (fun G => o_iastore G 113)), (113, o_up (fun G => o_dup 114)), (114, o_up (fun G => o_push (.int (4 : Int32)) 115)), (115, o_up (fun G => o_push (.int (109 : Int32)) 117)), (117, o_up (fun G => o_iastore G 118)), (118, o_up (fun G => o_dup 119)), (119, o_up (fun G => o_push (.int (5 : Int32)) 120)), (120, o_up (fun G => o_push (.int (115 : Int32)) 122)), (122, o_up (fun G => o_iastore G 123)), (123, o_up (fun G => o_dup 124)), (124, o_up (fun G => o_push (.int (6 : Int32)) 126)), (126, o_up (fun G => o_push (.int (32 : Int32)) 128)), (128, o_up (fun G => o_iastore G 129)), (129, o_up (fun G => o_dup 130)), (130, o_up (fun G => o_push (.int (7 : Int32)) 132)), (132, o_up (fun G => o_push (.int (102 : Int32)) 134)), (134, o_up (fun G => o_iastore G 135)), (135, o_up (fun G => o_dup 136)), (136, o_up (fun G => o_push (.int (8 : Int32)) 138)), (138, o_up (fun G => o_push (.int (97 : Int32)) 140))]
set_option maxRecDepth 200000 in
theorem iX12_init_1 {l : Launch} {w : nW} : n_AllD l w 0 mX12_init (fun r => (dv_v r.1, r.2)) (aX12_init_1) :=
  n_cd (s_newI (pc := 82) w_221 (by decide +kernel)) <|
  n_cd (s_putRF (pc := 84) (ci := 12) (k := 14) (idx := 37) nok12 (by decide) rfl rfl rfl rfl (by decide +kernel) w_1421) <|
  n_cd (s_up fun G => s_aload_n (pc := 87) (k := 0) (by decide +kernel)) <|
  n_cd (s_up fun G => s_sipush (pc := 88) (n := 145) (by decide +kernel) (by decide +kernel)) <|
  n_cd (s_newI (pc := 91) w_221 (by decide +kernel)) <|
  n_cd (s_up fun G => s_dup (pc := 93) (by decide +kernel)) <|
  n_cd (s_up fun G => s_iconst (pc := 94) (n := 0) (by decide +kernel) (by decide +kernel)) <|
  n_cd (s_up fun G => s_bipush (pc := 95) (n := 32) (by decide +kernel) (by decide +kernel)) <|
  n_cd (s_up fun G => s_iastore (pc := 97) (by decide +kernel)) <|
  n_cd (s_up fun G => s_dup (pc := 98) (by decide +kernel)) <|
  n_cd (s_up fun G => s_iconst (pc := 99) (n := 1) (by decide +kernel) (by decide +kernel)) <|
  n_cd (s_up fun G => s_bipush (pc := 100) (n := 112) (by decide +kernel) (by decide +kernel)) <|
  n_cd (s_up fun G => s_iastore (pc := 102) (by decide +kernel)) <|
  n_cd (s_up fun G => s_dup (pc := 103) (by decide +kernel)) <|
  n_cd (s_up fun G => s_iconst (pc := 104) (n := 2) (by decide +kernel) (by decide +kernel)) <|
  n_cd (s_up fun G => s_bipush (pc := 105) (n := 97) (by decide +kernel) (by decide +kernel)) <|
  n_cd (s_up fun G => s_iastore (pc := 107) (by decide +kernel)) <|
  n_cd (s_up fun G => s_dup (pc := 108) (by decide +kernel)) <|
  n_cd (s_up fun G => s_iconst (pc := 109) (n := 3) (by decide +kernel) (by decide +kernel)) <|
  n_cd (s_up fun G => s_bipush (pc := 110) (n := 108) (by decide +kernel) (by decide +kernel)) <|
  n_cd (s_up fun G => s_iastore (pc := 112) (by decide +kernel)) <|
  n_cd (s_up fun G => s_dup (pc := 113) (by decide +kernel)) <|
  n_cd (s_up fun G => s_iconst (pc := 114) (n := 4) (by decide +kernel) (by decide +kernel)) <|
  n_cd (s_up fun G => s_bipush (pc := 115) (n := 109) (by decide +kernel) (by decide +kernel)) <|
  n_cd (s_up fun G => s_iastore (pc := 117) (by decide +kernel)) <|
  n_cd (s_up fun G => s_dup (pc := 118) (by decide +kernel)) <|
  n_cd (s_up fun G => s_iconst (pc := 119) (n := 5) (by decide +kernel) (by decide +kernel)) <|
  n_cd (s_up fun G => s_bipush (pc := 120) (n := 115) (by decide +kernel) (by decide +kernel)) <|
  n_cd (s_up fun G => s_iastore (pc := 122) (by decide +kernel)) <|
  n_cd (s_up fun G => s_dup (pc := 123) (by decide +kernel)) <|
  n_cd (s_up fun G => s_bipush (pc := 124) (n := 6) (by decide +kernel) (by decide +kernel)) <|
  n_cd (s_up fun G => s_bipush (pc := 126) (n := 32) (by decide +kernel) (by decide +kernel)) <|
  n_cd (s_up fun G => s_iastore (pc := 128) (by decide +kernel)) <|
  n_cd (s_up fun G => s_dup (pc := 129) (by decide +kernel)) <|
  n_cd (s_up fun G => s_bipush (pc := 130) (n := 7) (by decide +kernel) (by decide +kernel)) <|
  n_cd (s_up fun G => s_bipush (pc := 132) (n := 102) (by decide +kernel) (by decide +kernel)) <|
  n_cd (s_up fun G => s_iastore (pc := 134) (by decide +kernel)) <|
  n_cd (s_up fun G => s_dup (pc := 135) (by decide +kernel)) <|
  n_cd (s_up fun G => s_bipush (pc := 136) (n := 8) (by decide +kernel) (by decide +kernel)) <|
  n_cd (s_up fun G => s_bipush (pc := 138) (n := 97) (by decide +kernel) (by decide +kernel)) <|
  n_ed
abbrev aX12_init_2 : List (Nat × nD (Unit × nH)) := [(140, o_up (fun G => o_iastore G 141)), (141, o_up (fun G => o_dup 142)), (142, o_up (fun G => o_push (.int (9 : Int32)) 144)), (144, o_up (fun G => o_push (.int (114 : Int32)) 146)), (146, o_up (fun G => o_iastore G 147)), (147, o_up (fun G => o_dup 148)), (148, o_up (fun G => o_push (.int (10 : Int32)) 150)), (150, o_up (fun G => o_push (.int (32 : Int32)) 152)), (152, o_up (fun G => o_iastore G 153)), (153, o_up (fun G => o_dup 154)), (154, o_up (fun G => o_push (.int (11 : Int32)) 156)), (156, o_up (fun G => o_push (.int (102 : Int32)) 158)), (158, o_up (fun G => o_iastore G 159)), (159, o_up (fun G => o_dup 160)), (160, o_up (fun G => o_push (.int (12 : Int32)) 162)), (162, o_up (fun G => o_push (.int (105 : Int32)) 164)), (164, o_up (fun G => o_iastore G 165)), (165, o_up (fun G => o_dup 166)), (166, o_up (fun G => o_push (.int (13 : Int32)) 168)), (168, o_up (fun G => o_push (.int (110 : Int32)) 170)), (170, o_up (fun G => o_iastore G 171)), (171, o_up (fun G => o_dup 172)), (172, o_up (fun G => o_push (.int (14 : Int32)) 174)), (174, o_up (fun G => o_push (.int (100 : Int32)) 176)), (176, o_up (fun G => o_iastore G 177)), (177, o_up (fun G => o_dup 178)), (178, o_up (fun G => o_push (.int (15 : Int32)) 180)), (180, o_up (fun G => o_push (.int (115 : Int32)) 182)), (182, o_up (fun G => o_iastore G 183)), (183, o_up (fun G => o_dup 184)), (184, o_up (fun G => o_push (.int (16 : Int32)) 186)), (186, o_up (fun G => o_push (.int (32 : Int32)) 188)), (188, o_up (fun G => o_iastore G 189)), (189, o_up (fun G => o_dup 190)), (190, o_up (fun G => o_push (.int (17 : Int32)) 192)), (192, o_up (fun G => o_push (.int (119 : Int32)) 194)), (194, o_up (fun G => o_iastore G 195)), (195, o_up (fun G => o_dup 196)), (196, o_up (fun G => o_push (.int (18 : Int32)) 198)), (198, o_up (fun G => o_push (.int (104 : Int32)) 200))]
set_option maxRecDepth 200000 in
theorem iX12_init_2 {l : Launch} {w : nW} : n_AllD l w 0 mX12_init (fun r => (dv_v r.1, r.2)) (aX12_init_2) :=
  n_cd (s_up fun G => s_iastore (pc := 140) (by decide +kernel)) <|
  n_cd (s_up fun G => s_dup (pc := 141) (by decide +kernel)) <|
  n_cd (s_up fun G => s_bipush (pc := 142) (n := 9) (by decide +kernel) (by decide +kernel)) <|
  n_cd (s_up fun G => s_bipush (pc := 144) (n := 114) (by decide +kernel) (by decide +kernel)) <|
  n_cd (s_up fun G => s_iastore (pc := 146) (by decide +kernel)) <|
  n_cd (s_up fun G => s_dup (pc := 147) (by decide +kernel)) <|
  n_cd (s_up fun G => s_bipush (pc := 148) (n := 10) (by decide +kernel) (by decide +kernel)) <|
  n_cd (s_up fun G => s_bipush (pc := 150) (n := 32) (by decide +kernel) (by decide +kernel)) <|
  n_cd (s_up fun G => s_iastore (pc := 152) (by decide +kernel)) <|
  n_cd (s_up fun G => s_dup (pc := 153) (by decide +kernel)) <|
  n_cd (s_up fun G => s_bipush (pc := 154) (n := 11) (by decide +kernel) (by decide +kernel)) <|
  n_cd (s_up fun G => s_bipush (pc := 156) (n := 102) (by decide +kernel) (by decide +kernel)) <|
  n_cd (s_up fun G => s_iastore (pc := 158) (by decide +kernel)) <|
  n_cd (s_up fun G => s_dup (pc := 159) (by decide +kernel)) <|
  n_cd (s_up fun G => s_bipush (pc := 160) (n := 12) (by decide +kernel) (by decide +kernel)) <|
  n_cd (s_up fun G => s_bipush (pc := 162) (n := 105) (by decide +kernel) (by decide +kernel)) <|
  n_cd (s_up fun G => s_iastore (pc := 164) (by decide +kernel)) <|
  n_cd (s_up fun G => s_dup (pc := 165) (by decide +kernel)) <|
  n_cd (s_up fun G => s_bipush (pc := 166) (n := 13) (by decide +kernel) (by decide +kernel)) <|
  n_cd (s_up fun G => s_bipush (pc := 168) (n := 110) (by decide +kernel) (by decide +kernel)) <|
  n_cd (s_up fun G => s_iastore (pc := 170) (by decide +kernel)) <|
  n_cd (s_up fun G => s_dup (pc := 171) (by decide +kernel)) <|
  n_cd (s_up fun G => s_bipush (pc := 172) (n := 14) (by decide +kernel) (by decide +kernel)) <|
  n_cd (s_up fun G => s_bipush (pc := 174) (n := 100) (by decide +kernel) (by decide +kernel)) <|
  n_cd (s_up fun G => s_iastore (pc := 176) (by decide +kernel)) <|
  n_cd (s_up fun G => s_dup (pc := 177) (by decide +kernel)) <|
  n_cd (s_up fun G => s_bipush (pc := 178) (n := 15) (by decide +kernel) (by decide +kernel)) <|
  n_cd (s_up fun G => s_bipush (pc := 180) (n := 115) (by decide +kernel) (by decide +kernel)) <|
  n_cd (s_up fun G => s_iastore (pc := 182) (by decide +kernel)) <|
  n_cd (s_up fun G => s_dup (pc := 183) (by decide +kernel)) <|
  n_cd (s_up fun G => s_bipush (pc := 184) (n := 16) (by decide +kernel) (by decide +kernel)) <|
  n_cd (s_up fun G => s_bipush (pc := 186) (n := 32) (by decide +kernel) (by decide +kernel)) <|
  n_cd (s_up fun G => s_iastore (pc := 188) (by decide +kernel)) <|
  n_cd (s_up fun G => s_dup (pc := 189) (by decide +kernel)) <|
  n_cd (s_up fun G => s_bipush (pc := 190) (n := 17) (by decide +kernel) (by decide +kernel)) <|
  n_cd (s_up fun G => s_bipush (pc := 192) (n := 119) (by decide +kernel) (by decide +kernel)) <|
  n_cd (s_up fun G => s_iastore (pc := 194) (by decide +kernel)) <|
  n_cd (s_up fun G => s_dup (pc := 195) (by decide +kernel)) <|
  n_cd (s_up fun G => s_bipush (pc := 196) (n := 18) (by decide +kernel) (by decide +kernel)) <|
  n_cd (s_up fun G => s_bipush (pc := 198) (n := 104) (by decide +kernel) (by decide +kernel)) <|
  n_ed
abbrev aX12_init_3 : List (Nat × nD (Unit × nH)) := [(200, o_up (fun G => o_iastore G 201)), (201, o_up (fun G => o_dup 202)), (202, o_up (fun G => o_push (.int (19 : Int32)) 204)), (204, o_up (fun G => o_push (.int (101 : Int32)) 206)), (206, o_up (fun G => o_iastore G 207)), (207, o_up (fun G => o_dup 208)), (208, o_up (fun G => o_push (.int (20 : Int32)) 210)), (210, o_up (fun G => o_push (.int (110 : Int32)) 212)), (212, o_up (fun G => o_iastore G 213)), (213, o_up (fun G => o_dup 214)), (214, o_up (fun G => o_push (.int (21 : Int32)) 216)), (216, o_up (fun G => o_push (.int (32 : Int32)) 218)), (218, o_up (fun G => o_iastore G 219)), (219, o_up (fun G => o_dup 220)), (220, o_up (fun G => o_push (.int (22 : Int32)) 222)), (222, o_up (fun G => o_push (.int (111 : Int32)) 224)), (224, o_up (fun G => o_iastore G 225)), (225, o_up (fun G => o_dup 226)), (226, o_up (fun G => o_push (.int (23 : Int32)) 228)), (228, o_up (fun G => o_push (.int (114 : Int32)) 230)), (230, o_up (fun G => o_iastore G 231)), (231, o_up (fun G => o_dup 232)), (232, o_up (fun G => o_push (.int (24 : Int32)) 234)), (234, o_up (fun G => o_push (.int (32 : Int32)) 236)), (236, o_up (fun G => o_iastore G 237)), (237, o_up (fun G => o_dup 238)), (238, o_up (fun G => o_push (.int (25 : Int32)) 240)), (240, o_up (fun G => o_push (.int (97 : Int32)) 242)), (242, o_up (fun G => o_iastore G 243)), (243, o_up (fun G => o_dup 244)), (244, o_up (fun G => o_push (.int (26 : Int32)) 246)), (246, o_up (fun G => o_push (.int (110 : Int32)) 248)), (248, o_up (fun G => o_iastore G 249)), (249, o_up (fun G => o_dup 250)), (250, o_up (fun G => o_push (.int (27 : Int32)) 252)), (252, o_up (fun G => o_push (.int (100 : Int32)) 254)), (254, o_up (fun G => o_iastore G 255)), (255, o_up (fun G => o_dup 256)), (256, o_up (fun G => o_push (.int (28 : Int32)) 258)), (258, o_up (fun G => o_push (.int (32 : Int32)) 260))]
set_option maxRecDepth 200000 in
theorem iX12_init_3 {l : Launch} {w : nW} : n_AllD l w 0 mX12_init (fun r => (dv_v r.1, r.2)) (aX12_init_3) :=
  n_cd (s_up fun G => s_iastore (pc := 200) (by decide +kernel)) <|
  n_cd (s_up fun G => s_dup (pc := 201) (by decide +kernel)) <|
  n_cd (s_up fun G => s_bipush (pc := 202) (n := 19) (by decide +kernel) (by decide +kernel)) <|
  n_cd (s_up fun G => s_bipush (pc := 204) (n := 101) (by decide +kernel) (by decide +kernel)) <|
  n_cd (s_up fun G => s_iastore (pc := 206) (by decide +kernel)) <|
  n_cd (s_up fun G => s_dup (pc := 207) (by decide +kernel)) <|
  n_cd (s_up fun G => s_bipush (pc := 208) (n := 20) (by decide +kernel) (by decide +kernel)) <|
  n_cd (s_up fun G => s_bipush (pc := 210) (n := 110) (by decide +kernel) (by decide +kernel)) <|
  n_cd (s_up fun G => s_iastore (pc := 212) (by decide +kernel)) <|
  n_cd (s_up fun G => s_dup (pc := 213) (by decide +kernel)) <|
  n_cd (s_up fun G => s_bipush (pc := 214) (n := 21) (by decide +kernel) (by decide +kernel)) <|
  n_cd (s_up fun G => s_bipush (pc := 216) (n := 32) (by decide +kernel) (by decide +kernel)) <|
  n_cd (s_up fun G => s_iastore (pc := 218) (by decide +kernel)) <|
  n_cd (s_up fun G => s_dup (pc := 219) (by decide +kernel)) <|
  n_cd (s_up fun G => s_bipush (pc := 220) (n := 22) (by decide +kernel) (by decide +kernel)) <|
  n_cd (s_up fun G => s_bipush (pc := 222) (n := 111) (by decide +kernel) (by decide +kernel)) <|
  n_cd (s_up fun G => s_iastore (pc := 224) (by decide +kernel)) <|
  n_cd (s_up fun G => s_dup (pc := 225) (by decide +kernel)) <|
  n_cd (s_up fun G => s_bipush (pc := 226) (n := 23) (by decide +kernel) (by decide +kernel)) <|
  n_cd (s_up fun G => s_bipush (pc := 228) (n := 114) (by decide +kernel) (by decide +kernel)) <|
  n_cd (s_up fun G => s_iastore (pc := 230) (by decide +kernel)) <|
  n_cd (s_up fun G => s_dup (pc := 231) (by decide +kernel)) <|
  n_cd (s_up fun G => s_bipush (pc := 232) (n := 24) (by decide +kernel) (by decide +kernel)) <|
  n_cd (s_up fun G => s_bipush (pc := 234) (n := 32) (by decide +kernel) (by decide +kernel)) <|
  n_cd (s_up fun G => s_iastore (pc := 236) (by decide +kernel)) <|
  n_cd (s_up fun G => s_dup (pc := 237) (by decide +kernel)) <|
  n_cd (s_up fun G => s_bipush (pc := 238) (n := 25) (by decide +kernel) (by decide +kernel)) <|
  n_cd (s_up fun G => s_bipush (pc := 240) (n := 97) (by decide +kernel) (by decide +kernel)) <|
  n_cd (s_up fun G => s_iastore (pc := 242) (by decide +kernel)) <|
  n_cd (s_up fun G => s_dup (pc := 243) (by decide +kernel)) <|
  n_cd (s_up fun G => s_bipush (pc := 244) (n := 26) (by decide +kernel) (by decide +kernel)) <|
  n_cd (s_up fun G => s_bipush (pc := 246) (n := 110) (by decide +kernel) (by decide +kernel)) <|
  n_cd (s_up fun G => s_iastore (pc := 248) (by decide +kernel)) <|
  n_cd (s_up fun G => s_dup (pc := 249) (by decide +kernel)) <|
  n_cd (s_up fun G => s_bipush (pc := 250) (n := 27) (by decide +kernel) (by decide +kernel)) <|
  n_cd (s_up fun G => s_bipush (pc := 252) (n := 100) (by decide +kernel) (by decide +kernel)) <|
  n_cd (s_up fun G => s_iastore (pc := 254) (by decide +kernel)) <|
  n_cd (s_up fun G => s_dup (pc := 255) (by decide +kernel)) <|
  n_cd (s_up fun G => s_bipush (pc := 256) (n := 28) (by decide +kernel) (by decide +kernel)) <|
  n_cd (s_up fun G => s_bipush (pc := 258) (n := 32) (by decide +kernel) (by decide +kernel)) <|
  n_ed
abbrev aX12_init_4 : List (Nat × nD (Unit × nH)) := [(260, o_up (fun G => o_iastore G 261)), (261, o_up (fun G => o_dup 262)), (262, o_up (fun G => o_push (.int (29 : Int32)) 264)), (264, o_up (fun G => o_push (.int (110 : Int32)) 266)), (266, o_up (fun G => o_iastore G 267)), (267, o_up (fun G => o_dup 268)), (268, o_up (fun G => o_push (.int (30 : Int32)) 270)), (270, o_up (fun G => o_push (.int (111 : Int32)) 272)), (272, o_up (fun G => o_iastore G 273)), (273, o_up (fun G => o_dup 274)), (274, o_up (fun G => o_push (.int (31 : Int32)) 276)), (276, o_up (fun G => o_push (.int (116 : Int32)) 278)), (278, o_up (fun G => o_iastore G 279)), (279, o_up (fun G => o_dup 280)), (280, o_up (fun G => o_push (.int (32 : Int32)) 282)), (282, o_up (fun G => o_push (.int (32 : Int32)) 284)), (284, o_up (fun G => o_iastore G 285)), (285, o_up (fun G => o_dup 286)), (286, o_up (fun G => o_push (.int (33 : Int32)) 288)), (288, o_up (fun G => o_push (.int (115 : Int32)) 290)), (290, o_up (fun G => o_iastore G 291)), (291, o_up (fun G => o_dup 292)), (292, o_up (fun G => o_push (.int (34 : Int32)) 294)), (294, o_up (fun G => o_push (.int (108 : Int32)) 296)), (296, o_up (fun G => o_iastore G 297)), (297, o_up (fun G => o_dup 298)), (298, o_up (fun G => o_push (.int (35 : Int32)) 300)), (300, o_up (fun G => o_push (.int (101 : Int32)) 302)), (302, o_up (fun G => o_iastore G 303)), (303, o_up (fun G => o_dup 304)), (304, o_up (fun G => o_push (.int (36 : Int32)) 306)), (306, o_up (fun G => o_push (.int (105 : Int32)) 308)), (308, o_up (fun G => o_iastore G 309)), (309, o_up (fun G => o_dup 310)), (310, o_up (fun G => o_push (.int (37 : Int32)) 312)), (312, o_up (fun G => o_push (.int (103 : Int32)) 314)), (314, o_up (fun G => o_iastore G 315)), (315, o_up (fun G => o_dup 316)), (316, o_up (fun G => o_push (.int (38 : Int32)) 318)), (318, o_up (fun G => o_push (.int (104 : Int32)) 320))]
set_option maxRecDepth 200000 in
theorem iX12_init_4 {l : Launch} {w : nW} : n_AllD l w 0 mX12_init (fun r => (dv_v r.1, r.2)) (aX12_init_4) :=
  n_cd (s_up fun G => s_iastore (pc := 260) (by decide +kernel)) <|
  n_cd (s_up fun G => s_dup (pc := 261) (by decide +kernel)) <|
  n_cd (s_up fun G => s_bipush (pc := 262) (n := 29) (by decide +kernel) (by decide +kernel)) <|
  n_cd (s_up fun G => s_bipush (pc := 264) (n := 110) (by decide +kernel) (by decide +kernel)) <|
  n_cd (s_up fun G => s_iastore (pc := 266) (by decide +kernel)) <|
  n_cd (s_up fun G => s_dup (pc := 267) (by decide +kernel)) <|
  n_cd (s_up fun G => s_bipush (pc := 268) (n := 30) (by decide +kernel) (by decide +kernel)) <|
  n_cd (s_up fun G => s_bipush (pc := 270) (n := 111) (by decide +kernel) (by decide +kernel)) <|
  n_cd (s_up fun G => s_iastore (pc := 272) (by decide +kernel)) <|
  n_cd (s_up fun G => s_dup (pc := 273) (by decide +kernel)) <|
  n_cd (s_up fun G => s_bipush (pc := 274) (n := 31) (by decide +kernel) (by decide +kernel)) <|
  n_cd (s_up fun G => s_bipush (pc := 276) (n := 116) (by decide +kernel) (by decide +kernel)) <|
  n_cd (s_up fun G => s_iastore (pc := 278) (by decide +kernel)) <|
  n_cd (s_up fun G => s_dup (pc := 279) (by decide +kernel)) <|
  n_cd (s_up fun G => s_bipush (pc := 280) (n := 32) (by decide +kernel) (by decide +kernel)) <|
  n_cd (s_up fun G => s_bipush (pc := 282) (n := 32) (by decide +kernel) (by decide +kernel)) <|
  n_cd (s_up fun G => s_iastore (pc := 284) (by decide +kernel)) <|
  n_cd (s_up fun G => s_dup (pc := 285) (by decide +kernel)) <|
  n_cd (s_up fun G => s_bipush (pc := 286) (n := 33) (by decide +kernel) (by decide +kernel)) <|
  n_cd (s_up fun G => s_bipush (pc := 288) (n := 115) (by decide +kernel) (by decide +kernel)) <|
  n_cd (s_up fun G => s_iastore (pc := 290) (by decide +kernel)) <|
  n_cd (s_up fun G => s_dup (pc := 291) (by decide +kernel)) <|
  n_cd (s_up fun G => s_bipush (pc := 292) (n := 34) (by decide +kernel) (by decide +kernel)) <|
  n_cd (s_up fun G => s_bipush (pc := 294) (n := 108) (by decide +kernel) (by decide +kernel)) <|
  n_cd (s_up fun G => s_iastore (pc := 296) (by decide +kernel)) <|
  n_cd (s_up fun G => s_dup (pc := 297) (by decide +kernel)) <|
  n_cd (s_up fun G => s_bipush (pc := 298) (n := 35) (by decide +kernel) (by decide +kernel)) <|
  n_cd (s_up fun G => s_bipush (pc := 300) (n := 101) (by decide +kernel) (by decide +kernel)) <|
  n_cd (s_up fun G => s_iastore (pc := 302) (by decide +kernel)) <|
  n_cd (s_up fun G => s_dup (pc := 303) (by decide +kernel)) <|
  n_cd (s_up fun G => s_bipush (pc := 304) (n := 36) (by decide +kernel) (by decide +kernel)) <|
  n_cd (s_up fun G => s_bipush (pc := 306) (n := 105) (by decide +kernel) (by decide +kernel)) <|
  n_cd (s_up fun G => s_iastore (pc := 308) (by decide +kernel)) <|
  n_cd (s_up fun G => s_dup (pc := 309) (by decide +kernel)) <|
  n_cd (s_up fun G => s_bipush (pc := 310) (n := 37) (by decide +kernel) (by decide +kernel)) <|
  n_cd (s_up fun G => s_bipush (pc := 312) (n := 103) (by decide +kernel) (by decide +kernel)) <|
  n_cd (s_up fun G => s_iastore (pc := 314) (by decide +kernel)) <|
  n_cd (s_up fun G => s_dup (pc := 315) (by decide +kernel)) <|
  n_cd (s_up fun G => s_bipush (pc := 316) (n := 38) (by decide +kernel) (by decide +kernel)) <|
  n_cd (s_up fun G => s_bipush (pc := 318) (n := 104) (by decide +kernel) (by decide +kernel)) <|
  n_ed
abbrev aX12_init_5 : List (Nat × nD (Unit × nH)) := [(320, o_up (fun G => o_iastore G 321)), (321, o_up (fun G => o_dup 322)), (322, o_up (fun G => o_push (.int (39 : Int32)) 324)), (324, o_up (fun G => o_push (.int (116 : Int32)) 326)), (326, o_up (fun G => o_iastore G 327)), (327, o_up (fun G => o_dup 328)), (328, o_up (fun G => o_push (.int (40 : Int32)) 330)), (330, o_up (fun G => o_push (.int (32 : Int32)) 332)), (332, o_up (fun G => o_iastore G 333)), (333, o_up (fun G => o_dup 334)), (334, o_up (fun G => o_push (.int (41 : Int32)) 336)), (336, o_up (fun G => o_push (.int (119 : Int32)) 338)), (338, o_up (fun G => o_iastore G 339)), (339, o_up (fun G => o_dup 340)), (340, o_up (fun G => o_push (.int (42 : Int32)) 342)), (342, o_up (fun G => o_push (.int (105 : Int32)) 344)), (344, o_up (fun G => o_iastore G 345)), (345, o_up (fun G => o_dup 346)), (346, o_up (fun G => o_push (.int (43 : Int32)) 348)), (348, o_up (fun G => o_push (.int (116 : Int32)) 350)), (350, o_up (fun G => o_iastore G 351)), (351, o_up (fun G => o_dup 352)), (352, o_up (fun G => o_push (.int (44 : Int32)) 354)), (354, o_up (fun G => o_push (.int (115 : Int32)) 356)), (356, o_up (fun G => o_iastore G 357)), (357, o_up (fun G => o_dup 358)), (358, o_up (fun G => o_push (.int (45 : Int32)) 360)), (360, o_up (fun G => o_push (.int (32 : Int32)) 362)), (362, o_up (fun G => o_iastore G 363)), (363, o_up (fun G => o_dup 364)), (364, o_up (fun G => o_push (.int (46 : Int32)) 366)), (366, o_up (fun G => o_push (.int (115 : Int32)) 368)), (368, o_up (fun G => o_iastore G 369)), (369, o_up (fun G => o_dup 370)), (370, o_up (fun G => o_push (.int (47 : Int32)) 372)), (372, o_up (fun G => o_push (.int (105 : Int32)) 374)), (374, o_up (fun G => o_iastore G 375)), (375, o_up (fun G => o_dup 376)), (376, o_up (fun G => o_push (.int (48 : Int32)) 378)), (378, o_up (fun G => o_push (.int (122 : Int32)) 380))]
set_option maxRecDepth 200000 in
theorem iX12_init_5 {l : Launch} {w : nW} : n_AllD l w 0 mX12_init (fun r => (dv_v r.1, r.2)) (aX12_init_5) :=
  n_cd (s_up fun G => s_iastore (pc := 320) (by decide +kernel)) <|
  n_cd (s_up fun G => s_dup (pc := 321) (by decide +kernel)) <|
  n_cd (s_up fun G => s_bipush (pc := 322) (n := 39) (by decide +kernel) (by decide +kernel)) <|
  n_cd (s_up fun G => s_bipush (pc := 324) (n := 116) (by decide +kernel) (by decide +kernel)) <|
  n_cd (s_up fun G => s_iastore (pc := 326) (by decide +kernel)) <|
  n_cd (s_up fun G => s_dup (pc := 327) (by decide +kernel)) <|
  n_cd (s_up fun G => s_bipush (pc := 328) (n := 40) (by decide +kernel) (by decide +kernel)) <|
  n_cd (s_up fun G => s_bipush (pc := 330) (n := 32) (by decide +kernel) (by decide +kernel)) <|
  n_cd (s_up fun G => s_iastore (pc := 332) (by decide +kernel)) <|
  n_cd (s_up fun G => s_dup (pc := 333) (by decide +kernel)) <|
  n_cd (s_up fun G => s_bipush (pc := 334) (n := 41) (by decide +kernel) (by decide +kernel)) <|
  n_cd (s_up fun G => s_bipush (pc := 336) (n := 119) (by decide +kernel) (by decide +kernel)) <|
  n_cd (s_up fun G => s_iastore (pc := 338) (by decide +kernel)) <|
  n_cd (s_up fun G => s_dup (pc := 339) (by decide +kernel)) <|
  n_cd (s_up fun G => s_bipush (pc := 340) (n := 42) (by decide +kernel) (by decide +kernel)) <|
  n_cd (s_up fun G => s_bipush (pc := 342) (n := 105) (by decide +kernel) (by decide +kernel)) <|
  n_cd (s_up fun G => s_iastore (pc := 344) (by decide +kernel)) <|
  n_cd (s_up fun G => s_dup (pc := 345) (by decide +kernel)) <|
  n_cd (s_up fun G => s_bipush (pc := 346) (n := 43) (by decide +kernel) (by decide +kernel)) <|
  n_cd (s_up fun G => s_bipush (pc := 348) (n := 116) (by decide +kernel) (by decide +kernel)) <|
  n_cd (s_up fun G => s_iastore (pc := 350) (by decide +kernel)) <|
  n_cd (s_up fun G => s_dup (pc := 351) (by decide +kernel)) <|
  n_cd (s_up fun G => s_bipush (pc := 352) (n := 44) (by decide +kernel) (by decide +kernel)) <|
  n_cd (s_up fun G => s_bipush (pc := 354) (n := 115) (by decide +kernel) (by decide +kernel)) <|
  n_cd (s_up fun G => s_iastore (pc := 356) (by decide +kernel)) <|
  n_cd (s_up fun G => s_dup (pc := 357) (by decide +kernel)) <|
  n_cd (s_up fun G => s_bipush (pc := 358) (n := 45) (by decide +kernel) (by decide +kernel)) <|
  n_cd (s_up fun G => s_bipush (pc := 360) (n := 32) (by decide +kernel) (by decide +kernel)) <|
  n_cd (s_up fun G => s_iastore (pc := 362) (by decide +kernel)) <|
  n_cd (s_up fun G => s_dup (pc := 363) (by decide +kernel)) <|
  n_cd (s_up fun G => s_bipush (pc := 364) (n := 46) (by decide +kernel) (by decide +kernel)) <|
  n_cd (s_up fun G => s_bipush (pc := 366) (n := 115) (by decide +kernel) (by decide +kernel)) <|
  n_cd (s_up fun G => s_iastore (pc := 368) (by decide +kernel)) <|
  n_cd (s_up fun G => s_dup (pc := 369) (by decide +kernel)) <|
  n_cd (s_up fun G => s_bipush (pc := 370) (n := 47) (by decide +kernel) (by decide +kernel)) <|
  n_cd (s_up fun G => s_bipush (pc := 372) (n := 105) (by decide +kernel) (by decide +kernel)) <|
  n_cd (s_up fun G => s_iastore (pc := 374) (by decide +kernel)) <|
  n_cd (s_up fun G => s_dup (pc := 375) (by decide +kernel)) <|
  n_cd (s_up fun G => s_bipush (pc := 376) (n := 48) (by decide +kernel) (by decide +kernel)) <|
  n_cd (s_up fun G => s_bipush (pc := 378) (n := 122) (by decide +kernel) (by decide +kernel)) <|
  n_ed
abbrev aX12_init_6 : List (Nat × nD (Unit × nH)) := [(380, o_up (fun G => o_iastore G 381)), (381, o_up (fun G => o_dup 382)), (382, o_up (fun G => o_push (.int (49 : Int32)) 384)), (384, o_up (fun G => o_push (.int (101 : Int32)) 386)), (386, o_up (fun G => o_iastore G 387)), (387, o_up (fun G => o_dup 388)), (388, o_up (fun G => o_push (.int (50 : Int32)) 390)), (390, o_up (fun G => o_push (.int (32 : Int32)) 392)), (392, o_up (fun G => o_iastore G 393)), (393, o_up (fun G => o_dup 394)), (394, o_up (fun G => o_push (.int (51 : Int32)) 396)), (396, o_up (fun G => o_push (.int (119 : Int32)) 398)), (398, o_up (fun G => o_iastore G 399)), (399, o_up (fun G => o_dup 400)), (400, o_up (fun G => o_push (.int (52 : Int32)) 402)), (402, o_up (fun G => o_push (.int (111 : Int32)) 404)), (404, o_up (fun G => o_iastore G 405)), (405, o_up (fun G => o_dup 406)), (406, o_up (fun G => o_push (.int (53 : Int32)) 408)), (408, o_up (fun G => o_push (.int (114 : Int32)) 410)), (410, o_up (fun G => o_iastore G 411)), (411, o_up (fun G => o_dup 412)), (412, o_up (fun G => o_push (.int (54 : Int32)) 414)), (414, o_up (fun G => o_push (.int (116 : Int32)) 416)), (416, o_up (fun G => o_iastore G 417)), (417, o_up (fun G => o_dup 418)), (418, o_up (fun G => o_push (.int (55 : Int32)) 420)), (420, o_up (fun G => o_push (.int (104 : Int32)) 422)), (422, o_up (fun G => o_iastore G 423)), (423, o_up (fun G => o_dup 424)), (424, o_up (fun G => o_push (.int (56 : Int32)) 426)), (426, o_up (fun G => o_push (.int (32 : Int32)) 428)), (428, o_up (fun G => o_iastore G 429)), (429, o_up (fun G => o_dup 430)), (430, o_up (fun G => o_push (.int (57 : Int32)) 432)), (432, o_up (fun G => o_push (.int (112 : Int32)) 434)), (434, o_up (fun G => o_iastore G 435)), (435, o_up (fun G => o_dup 436)), (436, o_up (fun G => o_push (.int (58 : Int32)) 438)), (438, o_up (fun G => o_push (.int (108 : Int32)) 440))]
set_option maxRecDepth 200000 in
theorem iX12_init_6 {l : Launch} {w : nW} : n_AllD l w 0 mX12_init (fun r => (dv_v r.1, r.2)) (aX12_init_6) :=
  n_cd (s_up fun G => s_iastore (pc := 380) (by decide +kernel)) <|
  n_cd (s_up fun G => s_dup (pc := 381) (by decide +kernel)) <|
  n_cd (s_up fun G => s_bipush (pc := 382) (n := 49) (by decide +kernel) (by decide +kernel)) <|
  n_cd (s_up fun G => s_bipush (pc := 384) (n := 101) (by decide +kernel) (by decide +kernel)) <|
  n_cd (s_up fun G => s_iastore (pc := 386) (by decide +kernel)) <|
  n_cd (s_up fun G => s_dup (pc := 387) (by decide +kernel)) <|
  n_cd (s_up fun G => s_bipush (pc := 388) (n := 50) (by decide +kernel) (by decide +kernel)) <|
  n_cd (s_up fun G => s_bipush (pc := 390) (n := 32) (by decide +kernel) (by decide +kernel)) <|
  n_cd (s_up fun G => s_iastore (pc := 392) (by decide +kernel)) <|
  n_cd (s_up fun G => s_dup (pc := 393) (by decide +kernel)) <|
  n_cd (s_up fun G => s_bipush (pc := 394) (n := 51) (by decide +kernel) (by decide +kernel)) <|
  n_cd (s_up fun G => s_bipush (pc := 396) (n := 119) (by decide +kernel) (by decide +kernel)) <|
  n_cd (s_up fun G => s_iastore (pc := 398) (by decide +kernel)) <|
  n_cd (s_up fun G => s_dup (pc := 399) (by decide +kernel)) <|
  n_cd (s_up fun G => s_bipush (pc := 400) (n := 52) (by decide +kernel) (by decide +kernel)) <|
  n_cd (s_up fun G => s_bipush (pc := 402) (n := 111) (by decide +kernel) (by decide +kernel)) <|
  n_cd (s_up fun G => s_iastore (pc := 404) (by decide +kernel)) <|
  n_cd (s_up fun G => s_dup (pc := 405) (by decide +kernel)) <|
  n_cd (s_up fun G => s_bipush (pc := 406) (n := 53) (by decide +kernel) (by decide +kernel)) <|
  n_cd (s_up fun G => s_bipush (pc := 408) (n := 114) (by decide +kernel) (by decide +kernel)) <|
  n_cd (s_up fun G => s_iastore (pc := 410) (by decide +kernel)) <|
  n_cd (s_up fun G => s_dup (pc := 411) (by decide +kernel)) <|
  n_cd (s_up fun G => s_bipush (pc := 412) (n := 54) (by decide +kernel) (by decide +kernel)) <|
  n_cd (s_up fun G => s_bipush (pc := 414) (n := 116) (by decide +kernel) (by decide +kernel)) <|
  n_cd (s_up fun G => s_iastore (pc := 416) (by decide +kernel)) <|
  n_cd (s_up fun G => s_dup (pc := 417) (by decide +kernel)) <|
  n_cd (s_up fun G => s_bipush (pc := 418) (n := 55) (by decide +kernel) (by decide +kernel)) <|
  n_cd (s_up fun G => s_bipush (pc := 420) (n := 104) (by decide +kernel) (by decide +kernel)) <|
  n_cd (s_up fun G => s_iastore (pc := 422) (by decide +kernel)) <|
  n_cd (s_up fun G => s_dup (pc := 423) (by decide +kernel)) <|
  n_cd (s_up fun G => s_bipush (pc := 424) (n := 56) (by decide +kernel) (by decide +kernel)) <|
  n_cd (s_up fun G => s_bipush (pc := 426) (n := 32) (by decide +kernel) (by decide +kernel)) <|
  n_cd (s_up fun G => s_iastore (pc := 428) (by decide +kernel)) <|
  n_cd (s_up fun G => s_dup (pc := 429) (by decide +kernel)) <|
  n_cd (s_up fun G => s_bipush (pc := 430) (n := 57) (by decide +kernel) (by decide +kernel)) <|
  n_cd (s_up fun G => s_bipush (pc := 432) (n := 112) (by decide +kernel) (by decide +kernel)) <|
  n_cd (s_up fun G => s_iastore (pc := 434) (by decide +kernel)) <|
  n_cd (s_up fun G => s_dup (pc := 435) (by decide +kernel)) <|
  n_cd (s_up fun G => s_bipush (pc := 436) (n := 58) (by decide +kernel) (by decide +kernel)) <|
  n_cd (s_up fun G => s_bipush (pc := 438) (n := 108) (by decide +kernel) (by decide +kernel)) <|
  n_ed
abbrev aX12_init_7 : List (Nat × nD (Unit × nH)) := [(440, o_up (fun G => o_iastore G 441)), (441, o_up (fun G => o_dup 442)), (442, o_up (fun G => o_push (.int (59 : Int32)) 444)), (444, o_up (fun G => o_push (.int (97 : Int32)) 446)), (446, o_up (fun G => o_iastore G 447)), (447, o_up (fun G => o_dup 448)), (448, o_up (fun G => o_push (.int (60 : Int32)) 450)), (450, o_up (fun G => o_push (.int (99 : Int32)) 452)), (452, o_up (fun G => o_iastore G 453)), (453, o_up (fun G => o_dup 454)), (454, o_up (fun G => o_push (.int (61 : Int32)) 456)), (456, o_up (fun G => o_push (.int (101 : Int32)) 458)), (458, o_up (fun G => o_iastore G 459)), (459, o_up (fun G => o_dup 460)), (460, o_up (fun G => o_push (.int (62 : Int32)) 462)), (462, o_up (fun G => o_push (.int (32 : Int32)) 464)), (464, o_up (fun G => o_iastore G 465)), (465, o_up (fun G => o_dup 466)), (466, o_up (fun G => o_push (.int (63 : Int32)) 468)), (468, o_up (fun G => o_push (.int (102 : Int32)) 470)), (470, o_up (fun G => o_iastore G 471)), (471, o_up (fun G => o_dup 472)), (472, o_up (fun G => o_push (.int (64 : Int32)) 474)), (474, o_up (fun G => o_push (.int (117 : Int32)) 476)), (476, o_up (fun G => o_iastore G 477)), (477, o_up (fun G => o_dup 478)), (478, o_up (fun G => o_push (.int (65 : Int32)) 480)), (480, o_up (fun G => o_push (.int (108 : Int32)) 482)), (482, o_up (fun G => o_iastore G 483)), (483, o_up (fun G => o_dup 484)), (484, o_up (fun G => o_push (.int (66 : Int32)) 486)), (486, o_up (fun G => o_push (.int (108 : Int32)) 488)), (488, o_up (fun G => o_iastore G 489)), (489, o_up (fun G => o_dup 490)), (490, o_up (fun G => o_push (.int (67 : Int32)) 492)), (492, o_up (fun G => o_push (.int (32 : Int32)) 494)), (494, o_up (fun G => o_iastore G 495)), (495, o_up (fun G => o_dup 496)), (496, o_up (fun G => o_push (.int (68 : Int32)) 498)), (498, o_up (fun G => o_push (.int (108 : Int32)) 500))]
set_option maxRecDepth 200000 in
theorem iX12_init_7 {l : Launch} {w : nW} : n_AllD l w 0 mX12_init (fun r => (dv_v r.1, r.2)) (aX12_init_7) :=
  n_cd (s_up fun G => s_iastore (pc := 440) (by decide +kernel)) <|
  n_cd (s_up fun G => s_dup (pc := 441) (by decide +kernel)) <|
  n_cd (s_up fun G => s_bipush (pc := 442) (n := 59) (by decide +kernel) (by decide +kernel)) <|
  n_cd (s_up fun G => s_bipush (pc := 444) (n := 97) (by decide +kernel) (by decide +kernel)) <|
  n_cd (s_up fun G => s_iastore (pc := 446) (by decide +kernel)) <|
  n_cd (s_up fun G => s_dup (pc := 447) (by decide +kernel)) <|
  n_cd (s_up fun G => s_bipush (pc := 448) (n := 60) (by decide +kernel) (by decide +kernel)) <|
  n_cd (s_up fun G => s_bipush (pc := 450) (n := 99) (by decide +kernel) (by decide +kernel)) <|
  n_cd (s_up fun G => s_iastore (pc := 452) (by decide +kernel)) <|
  n_cd (s_up fun G => s_dup (pc := 453) (by decide +kernel)) <|
  n_cd (s_up fun G => s_bipush (pc := 454) (n := 61) (by decide +kernel) (by decide +kernel)) <|
  n_cd (s_up fun G => s_bipush (pc := 456) (n := 101) (by decide +kernel) (by decide +kernel)) <|
  n_cd (s_up fun G => s_iastore (pc := 458) (by decide +kernel)) <|
  n_cd (s_up fun G => s_dup (pc := 459) (by decide +kernel)) <|
  n_cd (s_up fun G => s_bipush (pc := 460) (n := 62) (by decide +kernel) (by decide +kernel)) <|
  n_cd (s_up fun G => s_bipush (pc := 462) (n := 32) (by decide +kernel) (by decide +kernel)) <|
  n_cd (s_up fun G => s_iastore (pc := 464) (by decide +kernel)) <|
  n_cd (s_up fun G => s_dup (pc := 465) (by decide +kernel)) <|
  n_cd (s_up fun G => s_bipush (pc := 466) (n := 63) (by decide +kernel) (by decide +kernel)) <|
  n_cd (s_up fun G => s_bipush (pc := 468) (n := 102) (by decide +kernel) (by decide +kernel)) <|
  n_cd (s_up fun G => s_iastore (pc := 470) (by decide +kernel)) <|
  n_cd (s_up fun G => s_dup (pc := 471) (by decide +kernel)) <|
  n_cd (s_up fun G => s_bipush (pc := 472) (n := 64) (by decide +kernel) (by decide +kernel)) <|
  n_cd (s_up fun G => s_bipush (pc := 474) (n := 117) (by decide +kernel) (by decide +kernel)) <|
  n_cd (s_up fun G => s_iastore (pc := 476) (by decide +kernel)) <|
  n_cd (s_up fun G => s_dup (pc := 477) (by decide +kernel)) <|
  n_cd (s_up fun G => s_bipush (pc := 478) (n := 65) (by decide +kernel) (by decide +kernel)) <|
  n_cd (s_up fun G => s_bipush (pc := 480) (n := 108) (by decide +kernel) (by decide +kernel)) <|
  n_cd (s_up fun G => s_iastore (pc := 482) (by decide +kernel)) <|
  n_cd (s_up fun G => s_dup (pc := 483) (by decide +kernel)) <|
  n_cd (s_up fun G => s_bipush (pc := 484) (n := 66) (by decide +kernel) (by decide +kernel)) <|
  n_cd (s_up fun G => s_bipush (pc := 486) (n := 108) (by decide +kernel) (by decide +kernel)) <|
  n_cd (s_up fun G => s_iastore (pc := 488) (by decide +kernel)) <|
  n_cd (s_up fun G => s_dup (pc := 489) (by decide +kernel)) <|
  n_cd (s_up fun G => s_bipush (pc := 490) (n := 67) (by decide +kernel) (by decide +kernel)) <|
  n_cd (s_up fun G => s_bipush (pc := 492) (n := 32) (by decide +kernel) (by decide +kernel)) <|
  n_cd (s_up fun G => s_iastore (pc := 494) (by decide +kernel)) <|
  n_cd (s_up fun G => s_dup (pc := 495) (by decide +kernel)) <|
  n_cd (s_up fun G => s_bipush (pc := 496) (n := 68) (by decide +kernel) (by decide +kernel)) <|
  n_cd (s_up fun G => s_bipush (pc := 498) (n := 108) (by decide +kernel) (by decide +kernel)) <|
  n_ed
abbrev aX12_init_8 : List (Nat × nD (Unit × nH)) := [(500, o_up (fun G => o_iastore G 501)), (501, o_up (fun G => o_dup 502)), (502, o_up (fun G => o_push (.int (69 : Int32)) 504)), (504, o_up (fun G => o_push (.int (111 : Int32)) 506)), (506, o_up (fun G => o_iastore G 507)), (507, o_up (fun G => o_dup 508)), (508, o_up (fun G => o_push (.int (70 : Int32)) 510)), (510, o_up (fun G => o_push (.int (99 : Int32)) 512)), (512, o_up (fun G => o_iastore G 513)), (513, o_up (fun G => o_dup 514)), (514, o_up (fun G => o_push (.int (71 : Int32)) 516)), (516, o_up (fun G => o_push (.int (107 : Int32)) 518)), (518, o_up (fun G => o_iastore G 519)), (519, o_up (fun G => o_dup 520)), (520, o_up (fun G => o_push (.int (72 : Int32)) 522)), (522, o_up (fun G => o_push (.int (32 : Int32)) 524)), (524, o_up (fun G => o_iastore G 525)), (525, o_up (fun G => o_dup 526)), (526, o_up (fun G => o_push (.int (73 : Int32)) 528)), (528, o_up (fun G => o_push (.int (109 : Int32)) 530)), (530, o_up (fun G => o_iastore G 531)), (531, o_up (fun G => o_dup 532)), (532, o_up (fun G => o_push (.int (74 : Int32)) 534)), (534, o_up (fun G => o_push (.int (111 : Int32)) 536)), (536, o_up (fun G => o_iastore G 537)), (537, o_up (fun G => o_dup 538)), (538, o_up (fun G => o_push (.int (75 : Int32)) 540)), (540, o_up (fun G => o_push (.int (118 : Int32)) 542)), (542, o_up (fun G => o_iastore G 543)), (543, o_up (fun G => o_dup 544)), (544, o_up (fun G => o_push (.int (76 : Int32)) 546)), (546, o_up (fun G => o_push (.int (101 : Int32)) 548)), (548, o_up (fun G => o_iastore G 549)), (549, o_up (fun G => o_dup 550)), (550, o_up (fun G => o_push (.int (77 : Int32)) 552)), (552, o_up (fun G => o_push (.int (100 : Int32)) 554)), (554, o_up (fun G => o_iastore G 555)), (555, o_up (fun G => o_dup 556)), (556, o_up (fun G => o_push (.int (78 : Int32)) 558)), (558, o_up (fun G => o_push (.int (32 : Int32)) 560))]
set_option maxRecDepth 200000 in
theorem iX12_init_8 {l : Launch} {w : nW} : n_AllD l w 0 mX12_init (fun r => (dv_v r.1, r.2)) (aX12_init_8) :=
  n_cd (s_up fun G => s_iastore (pc := 500) (by decide +kernel)) <|
  n_cd (s_up fun G => s_dup (pc := 501) (by decide +kernel)) <|
  n_cd (s_up fun G => s_bipush (pc := 502) (n := 69) (by decide +kernel) (by decide +kernel)) <|
  n_cd (s_up fun G => s_bipush (pc := 504) (n := 111) (by decide +kernel) (by decide +kernel)) <|
  n_cd (s_up fun G => s_iastore (pc := 506) (by decide +kernel)) <|
  n_cd (s_up fun G => s_dup (pc := 507) (by decide +kernel)) <|
  n_cd (s_up fun G => s_bipush (pc := 508) (n := 70) (by decide +kernel) (by decide +kernel)) <|
  n_cd (s_up fun G => s_bipush (pc := 510) (n := 99) (by decide +kernel) (by decide +kernel)) <|
  n_cd (s_up fun G => s_iastore (pc := 512) (by decide +kernel)) <|
  n_cd (s_up fun G => s_dup (pc := 513) (by decide +kernel)) <|
  n_cd (s_up fun G => s_bipush (pc := 514) (n := 71) (by decide +kernel) (by decide +kernel)) <|
  n_cd (s_up fun G => s_bipush (pc := 516) (n := 107) (by decide +kernel) (by decide +kernel)) <|
  n_cd (s_up fun G => s_iastore (pc := 518) (by decide +kernel)) <|
  n_cd (s_up fun G => s_dup (pc := 519) (by decide +kernel)) <|
  n_cd (s_up fun G => s_bipush (pc := 520) (n := 72) (by decide +kernel) (by decide +kernel)) <|
  n_cd (s_up fun G => s_bipush (pc := 522) (n := 32) (by decide +kernel) (by decide +kernel)) <|
  n_cd (s_up fun G => s_iastore (pc := 524) (by decide +kernel)) <|
  n_cd (s_up fun G => s_dup (pc := 525) (by decide +kernel)) <|
  n_cd (s_up fun G => s_bipush (pc := 526) (n := 73) (by decide +kernel) (by decide +kernel)) <|
  n_cd (s_up fun G => s_bipush (pc := 528) (n := 109) (by decide +kernel) (by decide +kernel)) <|
  n_cd (s_up fun G => s_iastore (pc := 530) (by decide +kernel)) <|
  n_cd (s_up fun G => s_dup (pc := 531) (by decide +kernel)) <|
  n_cd (s_up fun G => s_bipush (pc := 532) (n := 74) (by decide +kernel) (by decide +kernel)) <|
  n_cd (s_up fun G => s_bipush (pc := 534) (n := 111) (by decide +kernel) (by decide +kernel)) <|
  n_cd (s_up fun G => s_iastore (pc := 536) (by decide +kernel)) <|
  n_cd (s_up fun G => s_dup (pc := 537) (by decide +kernel)) <|
  n_cd (s_up fun G => s_bipush (pc := 538) (n := 75) (by decide +kernel) (by decide +kernel)) <|
  n_cd (s_up fun G => s_bipush (pc := 540) (n := 118) (by decide +kernel) (by decide +kernel)) <|
  n_cd (s_up fun G => s_iastore (pc := 542) (by decide +kernel)) <|
  n_cd (s_up fun G => s_dup (pc := 543) (by decide +kernel)) <|
  n_cd (s_up fun G => s_bipush (pc := 544) (n := 76) (by decide +kernel) (by decide +kernel)) <|
  n_cd (s_up fun G => s_bipush (pc := 546) (n := 101) (by decide +kernel) (by decide +kernel)) <|
  n_cd (s_up fun G => s_iastore (pc := 548) (by decide +kernel)) <|
  n_cd (s_up fun G => s_dup (pc := 549) (by decide +kernel)) <|
  n_cd (s_up fun G => s_bipush (pc := 550) (n := 77) (by decide +kernel) (by decide +kernel)) <|
  n_cd (s_up fun G => s_bipush (pc := 552) (n := 100) (by decide +kernel) (by decide +kernel)) <|
  n_cd (s_up fun G => s_iastore (pc := 554) (by decide +kernel)) <|
  n_cd (s_up fun G => s_dup (pc := 555) (by decide +kernel)) <|
  n_cd (s_up fun G => s_bipush (pc := 556) (n := 78) (by decide +kernel) (by decide +kernel)) <|
  n_cd (s_up fun G => s_bipush (pc := 558) (n := 32) (by decide +kernel) (by decide +kernel)) <|
  n_ed
abbrev aX12_init_9 : List (Nat × nD (Unit × nH)) := [(560, o_up (fun G => o_iastore G 561)), (561, o_up (fun G => o_dup 562)), (562, o_up (fun G => o_push (.int (79 : Int32)) 564)), (564, o_up (fun G => o_push (.int (108 : Int32)) 566)), (566, o_up (fun G => o_iastore G 567)), (567, o_up (fun G => o_dup 568)), (568, o_up (fun G => o_push (.int (80 : Int32)) 570)), (570, o_up (fun G => o_push (.int (111 : Int32)) 572)), (572, o_up (fun G => o_iastore G 573)), (573, o_up (fun G => o_dup 574)), (574, o_up (fun G => o_push (.int (81 : Int32)) 576)), (576, o_up (fun G => o_push (.int (115 : Int32)) 578)), (578, o_up (fun G => o_iastore G 579)), (579, o_up (fun G => o_dup 580)), (580, o_up (fun G => o_push (.int (82 : Int32)) 582)), (582, o_up (fun G => o_push (.int (116 : Int32)) 584)), (584, o_up (fun G => o_iastore G 585)), (585, o_up (fun G => o_dup 586)), (586, o_up (fun G => o_push (.int (83 : Int32)) 588)), (588, o_up (fun G => o_push (.int (32 : Int32)) 590)), (590, o_up (fun G => o_iastore G 591)), (591, o_up (fun G => o_dup 592)), (592, o_up (fun G => o_push (.int (84 : Int32)) 594)), (594, o_up (fun G => o_push (.int (112 : Int32)) 596)), (596, o_up (fun G => o_iastore G 597)), (597, o_up (fun G => o_dup 598)), (598, o_up (fun G => o_push (.int (85 : Int32)) 600)), (600, o_up (fun G => o_push (.int (97 : Int32)) 602)), (602, o_up (fun G => o_iastore G 603)), (603, o_up (fun G => o_dup 604)), (604, o_up (fun G => o_push (.int (86 : Int32)) 606)), (606, o_up (fun G => o_push (.int (108 : Int32)) 608)), (608, o_up (fun G => o_iastore G 609)), (609, o_up (fun G => o_dup 610)), (610, o_up (fun G => o_push (.int (87 : Int32)) 612)), (612, o_up (fun G => o_push (.int (109 : Int32)) 614)), (614, o_up (fun G => o_iastore G 615)), (615, o_up (fun G => o_dup 616)), (616, o_up (fun G => o_push (.int (88 : Int32)) 618)), (618, o_up (fun G => o_push (.int (101 : Int32)) 620))]
set_option maxRecDepth 200000 in
theorem iX12_init_9 {l : Launch} {w : nW} : n_AllD l w 0 mX12_init (fun r => (dv_v r.1, r.2)) (aX12_init_9) :=
  n_cd (s_up fun G => s_iastore (pc := 560) (by decide +kernel)) <|
  n_cd (s_up fun G => s_dup (pc := 561) (by decide +kernel)) <|
  n_cd (s_up fun G => s_bipush (pc := 562) (n := 79) (by decide +kernel) (by decide +kernel)) <|
  n_cd (s_up fun G => s_bipush (pc := 564) (n := 108) (by decide +kernel) (by decide +kernel)) <|
  n_cd (s_up fun G => s_iastore (pc := 566) (by decide +kernel)) <|
  n_cd (s_up fun G => s_dup (pc := 567) (by decide +kernel)) <|
  n_cd (s_up fun G => s_bipush (pc := 568) (n := 80) (by decide +kernel) (by decide +kernel)) <|
  n_cd (s_up fun G => s_bipush (pc := 570) (n := 111) (by decide +kernel) (by decide +kernel)) <|
  n_cd (s_up fun G => s_iastore (pc := 572) (by decide +kernel)) <|
  n_cd (s_up fun G => s_dup (pc := 573) (by decide +kernel)) <|
  n_cd (s_up fun G => s_bipush (pc := 574) (n := 81) (by decide +kernel) (by decide +kernel)) <|
  n_cd (s_up fun G => s_bipush (pc := 576) (n := 115) (by decide +kernel) (by decide +kernel)) <|
  n_cd (s_up fun G => s_iastore (pc := 578) (by decide +kernel)) <|
  n_cd (s_up fun G => s_dup (pc := 579) (by decide +kernel)) <|
  n_cd (s_up fun G => s_bipush (pc := 580) (n := 82) (by decide +kernel) (by decide +kernel)) <|
  n_cd (s_up fun G => s_bipush (pc := 582) (n := 116) (by decide +kernel) (by decide +kernel)) <|
  n_cd (s_up fun G => s_iastore (pc := 584) (by decide +kernel)) <|
  n_cd (s_up fun G => s_dup (pc := 585) (by decide +kernel)) <|
  n_cd (s_up fun G => s_bipush (pc := 586) (n := 83) (by decide +kernel) (by decide +kernel)) <|
  n_cd (s_up fun G => s_bipush (pc := 588) (n := 32) (by decide +kernel) (by decide +kernel)) <|
  n_cd (s_up fun G => s_iastore (pc := 590) (by decide +kernel)) <|
  n_cd (s_up fun G => s_dup (pc := 591) (by decide +kernel)) <|
  n_cd (s_up fun G => s_bipush (pc := 592) (n := 84) (by decide +kernel) (by decide +kernel)) <|
  n_cd (s_up fun G => s_bipush (pc := 594) (n := 112) (by decide +kernel) (by decide +kernel)) <|
  n_cd (s_up fun G => s_iastore (pc := 596) (by decide +kernel)) <|
  n_cd (s_up fun G => s_dup (pc := 597) (by decide +kernel)) <|
  n_cd (s_up fun G => s_bipush (pc := 598) (n := 85) (by decide +kernel) (by decide +kernel)) <|
  n_cd (s_up fun G => s_bipush (pc := 600) (n := 97) (by decide +kernel) (by decide +kernel)) <|
  n_cd (s_up fun G => s_iastore (pc := 602) (by decide +kernel)) <|
  n_cd (s_up fun G => s_dup (pc := 603) (by decide +kernel)) <|
  n_cd (s_up fun G => s_bipush (pc := 604) (n := 86) (by decide +kernel) (by decide +kernel)) <|
  n_cd (s_up fun G => s_bipush (pc := 606) (n := 108) (by decide +kernel) (by decide +kernel)) <|
  n_cd (s_up fun G => s_iastore (pc := 608) (by decide +kernel)) <|
  n_cd (s_up fun G => s_dup (pc := 609) (by decide +kernel)) <|
  n_cd (s_up fun G => s_bipush (pc := 610) (n := 87) (by decide +kernel) (by decide +kernel)) <|
  n_cd (s_up fun G => s_bipush (pc := 612) (n := 109) (by decide +kernel) (by decide +kernel)) <|
  n_cd (s_up fun G => s_iastore (pc := 614) (by decide +kernel)) <|
  n_cd (s_up fun G => s_dup (pc := 615) (by decide +kernel)) <|
  n_cd (s_up fun G => s_bipush (pc := 616) (n := 88) (by decide +kernel) (by decide +kernel)) <|
  n_cd (s_up fun G => s_bipush (pc := 618) (n := 101) (by decide +kernel) (by decide +kernel)) <|
  n_ed
abbrev aX12_init_10 : List (Nat × nD (Unit × nH)) := [(620, o_up (fun G => o_iastore G 621)), (621, o_up (fun G => o_dup 622)), (622, o_up (fun G => o_push (.int (89 : Int32)) 624)), (624, o_up (fun G => o_push (.int (100 : Int32)) 626)), (626, o_up (fun G => o_iastore G 627)), (627, o_up (fun G => o_dup 628)), (628, o_up (fun G => o_push (.int (90 : Int32)) 630)), (630, o_up (fun G => o_push (.int (32 : Int32)) 632)), (632, o_up (fun G => o_iastore G 633)), (633, o_up (fun G => o_dup 634)), (634, o_up (fun G => o_push (.int (91 : Int32)) 636)), (636, o_up (fun G => o_push (.int (104 : Int32)) 638)), (638, o_up (fun G => o_iastore G 639)), (639, o_up (fun G => o_dup 640)), (640, o_up (fun G => o_push (.int (92 : Int32)) 642)), (642, o_up (fun G => o_push (.int (111 : Int32)) 644)), (644, o_up (fun G => o_iastore G 645)), (645, o_up (fun G => o_dup 646)), (646, o_up (fun G => o_push (.int (93 : Int32)) 648)), (648, o_up (fun G => o_push (.int (117 : Int32)) 650)), (650, o_up (fun G => o_iastore G 651)), (651, o_up (fun G => o_dup 652)), (652, o_up (fun G => o_push (.int (94 : Int32)) 654)), (654, o_up (fun G => o_push (.int (114 : Int32)) 656)), (656, o_up (fun G => o_iastore G 657)), (657, o_up (fun G => o_dup 658)), (658, o_up (fun G => o_push (.int (95 : Int32)) 660)), (660, o_up (fun G => o_push (.int (32 : Int32)) 662)), (662, o_up (fun G => o_iastore G 663)), (663, o_up (fun G => o_dup 664)), (664, o_up (fun G => o_push (.int (96 : Int32)) 666)), (666, o_up (fun G => o_push (.int (97 : Int32)) 668)), (668, o_up (fun G => o_iastore G 669)), (669, o_up (fun G => o_dup 670)), (670, o_up (fun G => o_push (.int (97 : Int32)) 672)), (672, o_up (fun G => o_push (.int (116 : Int32)) 674)), (674, o_up (fun G => o_iastore G 675)), (675, o_up (fun G => o_dup 676)), (676, o_up (fun G => o_push (.int (98 : Int32)) 678)), (678, o_up (fun G => o_push (.int (32 : Int32)) 680))]
set_option maxRecDepth 200000 in
theorem iX12_init_10 {l : Launch} {w : nW} : n_AllD l w 0 mX12_init (fun r => (dv_v r.1, r.2)) (aX12_init_10) :=
  n_cd (s_up fun G => s_iastore (pc := 620) (by decide +kernel)) <|
  n_cd (s_up fun G => s_dup (pc := 621) (by decide +kernel)) <|
  n_cd (s_up fun G => s_bipush (pc := 622) (n := 89) (by decide +kernel) (by decide +kernel)) <|
  n_cd (s_up fun G => s_bipush (pc := 624) (n := 100) (by decide +kernel) (by decide +kernel)) <|
  n_cd (s_up fun G => s_iastore (pc := 626) (by decide +kernel)) <|
  n_cd (s_up fun G => s_dup (pc := 627) (by decide +kernel)) <|
  n_cd (s_up fun G => s_bipush (pc := 628) (n := 90) (by decide +kernel) (by decide +kernel)) <|
  n_cd (s_up fun G => s_bipush (pc := 630) (n := 32) (by decide +kernel) (by decide +kernel)) <|
  n_cd (s_up fun G => s_iastore (pc := 632) (by decide +kernel)) <|
  n_cd (s_up fun G => s_dup (pc := 633) (by decide +kernel)) <|
  n_cd (s_up fun G => s_bipush (pc := 634) (n := 91) (by decide +kernel) (by decide +kernel)) <|
  n_cd (s_up fun G => s_bipush (pc := 636) (n := 104) (by decide +kernel) (by decide +kernel)) <|
  n_cd (s_up fun G => s_iastore (pc := 638) (by decide +kernel)) <|
  n_cd (s_up fun G => s_dup (pc := 639) (by decide +kernel)) <|
  n_cd (s_up fun G => s_bipush (pc := 640) (n := 92) (by decide +kernel) (by decide +kernel)) <|
  n_cd (s_up fun G => s_bipush (pc := 642) (n := 111) (by decide +kernel) (by decide +kernel)) <|
  n_cd (s_up fun G => s_iastore (pc := 644) (by decide +kernel)) <|
  n_cd (s_up fun G => s_dup (pc := 645) (by decide +kernel)) <|
  n_cd (s_up fun G => s_bipush (pc := 646) (n := 93) (by decide +kernel) (by decide +kernel)) <|
  n_cd (s_up fun G => s_bipush (pc := 648) (n := 117) (by decide +kernel) (by decide +kernel)) <|
  n_cd (s_up fun G => s_iastore (pc := 650) (by decide +kernel)) <|
  n_cd (s_up fun G => s_dup (pc := 651) (by decide +kernel)) <|
  n_cd (s_up fun G => s_bipush (pc := 652) (n := 94) (by decide +kernel) (by decide +kernel)) <|
  n_cd (s_up fun G => s_bipush (pc := 654) (n := 114) (by decide +kernel) (by decide +kernel)) <|
  n_cd (s_up fun G => s_iastore (pc := 656) (by decide +kernel)) <|
  n_cd (s_up fun G => s_dup (pc := 657) (by decide +kernel)) <|
  n_cd (s_up fun G => s_bipush (pc := 658) (n := 95) (by decide +kernel) (by decide +kernel)) <|
  n_cd (s_up fun G => s_bipush (pc := 660) (n := 32) (by decide +kernel) (by decide +kernel)) <|
  n_cd (s_up fun G => s_iastore (pc := 662) (by decide +kernel)) <|
  n_cd (s_up fun G => s_dup (pc := 663) (by decide +kernel)) <|
  n_cd (s_up fun G => s_bipush (pc := 664) (n := 96) (by decide +kernel) (by decide +kernel)) <|
  n_cd (s_up fun G => s_bipush (pc := 666) (n := 97) (by decide +kernel) (by decide +kernel)) <|
  n_cd (s_up fun G => s_iastore (pc := 668) (by decide +kernel)) <|
  n_cd (s_up fun G => s_dup (pc := 669) (by decide +kernel)) <|
  n_cd (s_up fun G => s_bipush (pc := 670) (n := 97) (by decide +kernel) (by decide +kernel)) <|
  n_cd (s_up fun G => s_bipush (pc := 672) (n := 116) (by decide +kernel) (by decide +kernel)) <|
  n_cd (s_up fun G => s_iastore (pc := 674) (by decide +kernel)) <|
  n_cd (s_up fun G => s_dup (pc := 675) (by decide +kernel)) <|
  n_cd (s_up fun G => s_bipush (pc := 676) (n := 98) (by decide +kernel) (by decide +kernel)) <|
  n_cd (s_up fun G => s_bipush (pc := 678) (n := 32) (by decide +kernel) (by decide +kernel)) <|
  n_ed
abbrev aX12_init_11 : List (Nat × nD (Unit × nH)) := [(680, o_up (fun G => o_iastore G 681)), (681, o_up (fun G => o_dup 682)), (682, o_up (fun G => o_push (.int (99 : Int32)) 684)), (684, o_up (fun G => o_push (.int (112 : Int32)) 686)), (686, o_up (fun G => o_iastore G 687)), (687, o_up (fun G => o_dup 688)), (688, o_up (fun G => o_push (.int (100 : Int32)) 690)), (690, o_up (fun G => o_push (.int (101 : Int32)) 692)), (692, o_up (fun G => o_iastore G 693)), (693, o_up (fun G => o_dup 694)), (694, o_up (fun G => o_push (.int (101 : Int32)) 696)), (696, o_up (fun G => o_push (.int (114 : Int32)) 698)), (698, o_up (fun G => o_iastore G 699)), (699, o_up (fun G => o_dup 700)), (700, o_up (fun G => o_push (.int (102 : Int32)) 702)), (702, o_up (fun G => o_push (.int (115 : Int32)) 704)), (704, o_up (fun G => o_iastore G 705)), (705, o_up (fun G => o_dup 706)), (706, o_up (fun G => o_push (.int (103 : Int32)) 708)), (708, o_up (fun G => o_push (.int (111 : Int32)) 710)), (710, o_up (fun G => o_iastore G 711)), (711, o_up (fun G => o_dup 712)), (712, o_up (fun G => o_push (.int (104 : Int32)) 714)), (714, o_up (fun G => o_push (.int (110 : Int32)) 716)), (716, o_up (fun G => o_iastore G 717)), (717, o_up (fun G => o_dup 718)), (718, o_up (fun G => o_push (.int (105 : Int32)) 720)), (720, o_up (fun G => o_push (.int (32 : Int32)) 722)), (722, o_up (fun G => o_iastore G 723)), (723, o_up (fun G => o_dup 724)), (724, o_up (fun G => o_push (.int (106 : Int32)) 726)), (726, o_up (fun G => o_push (.int (112 : Int32)) 728)), (728, o_up (fun G => o_iastore G 729)), (729, o_up (fun G => o_dup 730)), (730, o_up (fun G => o_push (.int (107 : Int32)) 732)), (732, o_up (fun G => o_push (.int (117 : Int32)) 734)), (734, o_up (fun G => o_iastore G 735)), (735, o_up (fun G => o_dup 736)), (736, o_up (fun G => o_push (.int (108 : Int32)) 738)), (738, o_up (fun G => o_push (.int (116 : Int32)) 740))]
set_option maxRecDepth 200000 in
theorem iX12_init_11 {l : Launch} {w : nW} : n_AllD l w 0 mX12_init (fun r => (dv_v r.1, r.2)) (aX12_init_11) :=
  n_cd (s_up fun G => s_iastore (pc := 680) (by decide +kernel)) <|
  n_cd (s_up fun G => s_dup (pc := 681) (by decide +kernel)) <|
  n_cd (s_up fun G => s_bipush (pc := 682) (n := 99) (by decide +kernel) (by decide +kernel)) <|
  n_cd (s_up fun G => s_bipush (pc := 684) (n := 112) (by decide +kernel) (by decide +kernel)) <|
  n_cd (s_up fun G => s_iastore (pc := 686) (by decide +kernel)) <|
  n_cd (s_up fun G => s_dup (pc := 687) (by decide +kernel)) <|
  n_cd (s_up fun G => s_bipush (pc := 688) (n := 100) (by decide +kernel) (by decide +kernel)) <|
  n_cd (s_up fun G => s_bipush (pc := 690) (n := 101) (by decide +kernel) (by decide +kernel)) <|
  n_cd (s_up fun G => s_iastore (pc := 692) (by decide +kernel)) <|
  n_cd (s_up fun G => s_dup (pc := 693) (by decide +kernel)) <|
  n_cd (s_up fun G => s_bipush (pc := 694) (n := 101) (by decide +kernel) (by decide +kernel)) <|
  n_cd (s_up fun G => s_bipush (pc := 696) (n := 114) (by decide +kernel) (by decide +kernel)) <|
  n_cd (s_up fun G => s_iastore (pc := 698) (by decide +kernel)) <|
  n_cd (s_up fun G => s_dup (pc := 699) (by decide +kernel)) <|
  n_cd (s_up fun G => s_bipush (pc := 700) (n := 102) (by decide +kernel) (by decide +kernel)) <|
  n_cd (s_up fun G => s_bipush (pc := 702) (n := 115) (by decide +kernel) (by decide +kernel)) <|
  n_cd (s_up fun G => s_iastore (pc := 704) (by decide +kernel)) <|
  n_cd (s_up fun G => s_dup (pc := 705) (by decide +kernel)) <|
  n_cd (s_up fun G => s_bipush (pc := 706) (n := 103) (by decide +kernel) (by decide +kernel)) <|
  n_cd (s_up fun G => s_bipush (pc := 708) (n := 111) (by decide +kernel) (by decide +kernel)) <|
  n_cd (s_up fun G => s_iastore (pc := 710) (by decide +kernel)) <|
  n_cd (s_up fun G => s_dup (pc := 711) (by decide +kernel)) <|
  n_cd (s_up fun G => s_bipush (pc := 712) (n := 104) (by decide +kernel) (by decide +kernel)) <|
  n_cd (s_up fun G => s_bipush (pc := 714) (n := 110) (by decide +kernel) (by decide +kernel)) <|
  n_cd (s_up fun G => s_iastore (pc := 716) (by decide +kernel)) <|
  n_cd (s_up fun G => s_dup (pc := 717) (by decide +kernel)) <|
  n_cd (s_up fun G => s_bipush (pc := 718) (n := 105) (by decide +kernel) (by decide +kernel)) <|
  n_cd (s_up fun G => s_bipush (pc := 720) (n := 32) (by decide +kernel) (by decide +kernel)) <|
  n_cd (s_up fun G => s_iastore (pc := 722) (by decide +kernel)) <|
  n_cd (s_up fun G => s_dup (pc := 723) (by decide +kernel)) <|
  n_cd (s_up fun G => s_bipush (pc := 724) (n := 106) (by decide +kernel) (by decide +kernel)) <|
  n_cd (s_up fun G => s_bipush (pc := 726) (n := 112) (by decide +kernel) (by decide +kernel)) <|
  n_cd (s_up fun G => s_iastore (pc := 728) (by decide +kernel)) <|
  n_cd (s_up fun G => s_dup (pc := 729) (by decide +kernel)) <|
  n_cd (s_up fun G => s_bipush (pc := 730) (n := 107) (by decide +kernel) (by decide +kernel)) <|
  n_cd (s_up fun G => s_bipush (pc := 732) (n := 117) (by decide +kernel) (by decide +kernel)) <|
  n_cd (s_up fun G => s_iastore (pc := 734) (by decide +kernel)) <|
  n_cd (s_up fun G => s_dup (pc := 735) (by decide +kernel)) <|
  n_cd (s_up fun G => s_bipush (pc := 736) (n := 108) (by decide +kernel) (by decide +kernel)) <|
  n_cd (s_up fun G => s_bipush (pc := 738) (n := 116) (by decide +kernel) (by decide +kernel)) <|
  n_ed
abbrev aX12_init_12 : List (Nat × nD (Unit × nH)) := [(740, o_up (fun G => o_iastore G 741)), (741, o_up (fun G => o_dup 742)), (742, o_up (fun G => o_push (.int (109 : Int32)) 744)), (744, o_up (fun G => o_push (.int (115 : Int32)) 746)), (746, o_up (fun G => o_iastore G 747)), (747, o_up (fun G => o_dup 748)), (748, o_up (fun G => o_push (.int (110 : Int32)) 750)), (750, o_up (fun G => o_push (.int (32 : Int32)) 752)), (752, o_up (fun G => o_iastore G 753)), (753, o_up (fun G => o_dup 754)), (754, o_up (fun G => o_push (.int (111 : Int32)) 756)), (756, o_up (fun G => o_push (.int (105 : Int32)) 758)), (758, o_up (fun G => o_iastore G 759)), (759, o_up (fun G => o_dup 760)), (760, o_up (fun G => o_push (.int (112 : Int32)) 762)), (762, o_up (fun G => o_push (.int (110 : Int32)) 764)), (764, o_up (fun G => o_iastore G 765)), (765, o_up (fun G => o_dup 766)), (766, o_up (fun G => o_push (.int (113 : Int32)) 768)), (768, o_up (fun G => o_push (.int (32 : Int32)) 770)), (770, o_up (fun G => o_iastore G 771)), (771, o_up (fun G => o_dup 772)), (772, o_up (fun G => o_push (.int (114 : Int32)) 774)), (774, o_up (fun G => o_push (.int (116 : Int32)) 776)), (776, o_up (fun G => o_iastore G 777)), (777, o_up (fun G => o_dup 778)), (778, o_up (fun G => o_push (.int (115 : Int32)) 780)), (780, o_up (fun G => o_push (.int (105 : Int32)) 782)), (782, o_up (fun G => o_iastore G 783)), (783, o_up (fun G => o_dup 784)), (784, o_up (fun G => o_push (.int (116 : Int32)) 786)), (786, o_up (fun G => o_push (.int (101 : Int32)) 788)), (788, o_up (fun G => o_iastore G 789)), (789, o_up (fun G => o_dup 790)), (790, o_up (fun G => o_push (.int (117 : Int32)) 792)), (792, o_up (fun G => o_push (.int (32 : Int32)) 794)), (794, o_up (fun G => o_iastore G 795)), (795, o_up (fun G => o_dup 796)), (796, o_up (fun G => o_push (.int (118 : Int32)) 798)), (798, o_up (fun G => o_push (.int (108 : Int32)) 800))]
set_option maxRecDepth 200000 in
theorem iX12_init_12 {l : Launch} {w : nW} : n_AllD l w 0 mX12_init (fun r => (dv_v r.1, r.2)) (aX12_init_12) :=
  n_cd (s_up fun G => s_iastore (pc := 740) (by decide +kernel)) <|
  n_cd (s_up fun G => s_dup (pc := 741) (by decide +kernel)) <|
  n_cd (s_up fun G => s_bipush (pc := 742) (n := 109) (by decide +kernel) (by decide +kernel)) <|
  n_cd (s_up fun G => s_bipush (pc := 744) (n := 115) (by decide +kernel) (by decide +kernel)) <|
  n_cd (s_up fun G => s_iastore (pc := 746) (by decide +kernel)) <|
  n_cd (s_up fun G => s_dup (pc := 747) (by decide +kernel)) <|
  n_cd (s_up fun G => s_bipush (pc := 748) (n := 110) (by decide +kernel) (by decide +kernel)) <|
  n_cd (s_up fun G => s_bipush (pc := 750) (n := 32) (by decide +kernel) (by decide +kernel)) <|
  n_cd (s_up fun G => s_iastore (pc := 752) (by decide +kernel)) <|
  n_cd (s_up fun G => s_dup (pc := 753) (by decide +kernel)) <|
  n_cd (s_up fun G => s_bipush (pc := 754) (n := 111) (by decide +kernel) (by decide +kernel)) <|
  n_cd (s_up fun G => s_bipush (pc := 756) (n := 105) (by decide +kernel) (by decide +kernel)) <|
  n_cd (s_up fun G => s_iastore (pc := 758) (by decide +kernel)) <|
  n_cd (s_up fun G => s_dup (pc := 759) (by decide +kernel)) <|
  n_cd (s_up fun G => s_bipush (pc := 760) (n := 112) (by decide +kernel) (by decide +kernel)) <|
  n_cd (s_up fun G => s_bipush (pc := 762) (n := 110) (by decide +kernel) (by decide +kernel)) <|
  n_cd (s_up fun G => s_iastore (pc := 764) (by decide +kernel)) <|
  n_cd (s_up fun G => s_dup (pc := 765) (by decide +kernel)) <|
  n_cd (s_up fun G => s_bipush (pc := 766) (n := 113) (by decide +kernel) (by decide +kernel)) <|
  n_cd (s_up fun G => s_bipush (pc := 768) (n := 32) (by decide +kernel) (by decide +kernel)) <|
  n_cd (s_up fun G => s_iastore (pc := 770) (by decide +kernel)) <|
  n_cd (s_up fun G => s_dup (pc := 771) (by decide +kernel)) <|
  n_cd (s_up fun G => s_bipush (pc := 772) (n := 114) (by decide +kernel) (by decide +kernel)) <|
  n_cd (s_up fun G => s_bipush (pc := 774) (n := 116) (by decide +kernel) (by decide +kernel)) <|
  n_cd (s_up fun G => s_iastore (pc := 776) (by decide +kernel)) <|
  n_cd (s_up fun G => s_dup (pc := 777) (by decide +kernel)) <|
  n_cd (s_up fun G => s_bipush (pc := 778) (n := 115) (by decide +kernel) (by decide +kernel)) <|
  n_cd (s_up fun G => s_bipush (pc := 780) (n := 105) (by decide +kernel) (by decide +kernel)) <|
  n_cd (s_up fun G => s_iastore (pc := 782) (by decide +kernel)) <|
  n_cd (s_up fun G => s_dup (pc := 783) (by decide +kernel)) <|
  n_cd (s_up fun G => s_bipush (pc := 784) (n := 116) (by decide +kernel) (by decide +kernel)) <|
  n_cd (s_up fun G => s_bipush (pc := 786) (n := 101) (by decide +kernel) (by decide +kernel)) <|
  n_cd (s_up fun G => s_iastore (pc := 788) (by decide +kernel)) <|
  n_cd (s_up fun G => s_dup (pc := 789) (by decide +kernel)) <|
  n_cd (s_up fun G => s_bipush (pc := 790) (n := 117) (by decide +kernel) (by decide +kernel)) <|
  n_cd (s_up fun G => s_bipush (pc := 792) (n := 32) (by decide +kernel) (by decide +kernel)) <|
  n_cd (s_up fun G => s_iastore (pc := 794) (by decide +kernel)) <|
  n_cd (s_up fun G => s_dup (pc := 795) (by decide +kernel)) <|
  n_cd (s_up fun G => s_bipush (pc := 796) (n := 118) (by decide +kernel) (by decide +kernel)) <|
  n_cd (s_up fun G => s_bipush (pc := 798) (n := 108) (by decide +kernel) (by decide +kernel)) <|
  n_ed
abbrev aX12_init_13 : List (Nat × nD (Unit × nH)) := [(800, o_up (fun G => o_iastore G 801)), (801, o_up (fun G => o_dup 802)), (802, o_up (fun G => o_push (.int (119 : Int32)) 804)), (804, o_up (fun G => o_push (.int (111 : Int32)) 806)), (806, o_up (fun G => o_iastore G 807)), (807, o_up (fun G => o_dup 808)), (808, o_up (fun G => o_push (.int (120 : Int32)) 810)), (810, o_up (fun G => o_push (.int (111 : Int32)) 812)), (812, o_up (fun G => o_iastore G 813)), (813, o_up (fun G => o_dup 814)), (814, o_up (fun G => o_push (.int (121 : Int32)) 816)), (816, o_up (fun G => o_push (.int (115 : Int32)) 818)), (818, o_up (fun G => o_iastore G 819)), (819, o_up (fun G => o_dup 820)), (820, o_up (fun G => o_push (.int (122 : Int32)) 822)), (822, o_up (fun G => o_push (.int (101 : Int32)) 824)), (824, o_up (fun G => o_iastore G 825)), (825, o_up (fun G => o_dup 826)), (826, o_up (fun G => o_push (.int (123 : Int32)) 828)), (828, o_up (fun G => o_push (.int (32 : Int32)) 830)), (830, o_up (fun G => o_iastore G 831)), (831, o_up (fun G => o_dup 832)), (832, o_up (fun G => o_push (.int (124 : Int32)) 834)), (834, o_up (fun G => o_push (.int (111 : Int32)) 836)), (836, o_up (fun G => o_iastore G 837)), (837, o_up (fun G => o_dup 838)), (838, o_up (fun G => o_push (.int (125 : Int32)) 840)), (840, o_up (fun G => o_push (.int (112 : Int32)) 842)), (842, o_up (fun G => o_iastore G 843)), (843, o_up (fun G => o_dup 844)), (844, o_up (fun G => o_push (.int (126 : Int32)) 846)), (846, o_up (fun G => o_push (.int (101 : Int32)) 848)), (848, o_up (fun G => o_iastore G 849)), (849, o_up (fun G => o_dup 850)), (850, o_up (fun G => o_push (.int (127 : Int32)) 852)), (852, o_up (fun G => o_push (.int (110 : Int32)) 854)), (854, o_up (fun G => o_iastore G 855)), (855, o_up (fun G => o_dup 856)), (856, o_up (fun G => o_push (.int (128 : Int32)) 859)), (859, o_up (fun G => o_push (.int (32 : Int32)) 861))]
set_option maxRecDepth 200000 in
theorem iX12_init_13 {l : Launch} {w : nW} : n_AllD l w 0 mX12_init (fun r => (dv_v r.1, r.2)) (aX12_init_13) :=
  n_cd (s_up fun G => s_iastore (pc := 800) (by decide +kernel)) <|
  n_cd (s_up fun G => s_dup (pc := 801) (by decide +kernel)) <|
  n_cd (s_up fun G => s_bipush (pc := 802) (n := 119) (by decide +kernel) (by decide +kernel)) <|
  n_cd (s_up fun G => s_bipush (pc := 804) (n := 111) (by decide +kernel) (by decide +kernel)) <|
  n_cd (s_up fun G => s_iastore (pc := 806) (by decide +kernel)) <|
  n_cd (s_up fun G => s_dup (pc := 807) (by decide +kernel)) <|
  n_cd (s_up fun G => s_bipush (pc := 808) (n := 120) (by decide +kernel) (by decide +kernel)) <|
  n_cd (s_up fun G => s_bipush (pc := 810) (n := 111) (by decide +kernel) (by decide +kernel)) <|
  n_cd (s_up fun G => s_iastore (pc := 812) (by decide +kernel)) <|
  n_cd (s_up fun G => s_dup (pc := 813) (by decide +kernel)) <|
  n_cd (s_up fun G => s_bipush (pc := 814) (n := 121) (by decide +kernel) (by decide +kernel)) <|
  n_cd (s_up fun G => s_bipush (pc := 816) (n := 115) (by decide +kernel) (by decide +kernel)) <|
  n_cd (s_up fun G => s_iastore (pc := 818) (by decide +kernel)) <|
  n_cd (s_up fun G => s_dup (pc := 819) (by decide +kernel)) <|
  n_cd (s_up fun G => s_bipush (pc := 820) (n := 122) (by decide +kernel) (by decide +kernel)) <|
  n_cd (s_up fun G => s_bipush (pc := 822) (n := 101) (by decide +kernel) (by decide +kernel)) <|
  n_cd (s_up fun G => s_iastore (pc := 824) (by decide +kernel)) <|
  n_cd (s_up fun G => s_dup (pc := 825) (by decide +kernel)) <|
  n_cd (s_up fun G => s_bipush (pc := 826) (n := 123) (by decide +kernel) (by decide +kernel)) <|
  n_cd (s_up fun G => s_bipush (pc := 828) (n := 32) (by decide +kernel) (by decide +kernel)) <|
  n_cd (s_up fun G => s_iastore (pc := 830) (by decide +kernel)) <|
  n_cd (s_up fun G => s_dup (pc := 831) (by decide +kernel)) <|
  n_cd (s_up fun G => s_bipush (pc := 832) (n := 124) (by decide +kernel) (by decide +kernel)) <|
  n_cd (s_up fun G => s_bipush (pc := 834) (n := 111) (by decide +kernel) (by decide +kernel)) <|
  n_cd (s_up fun G => s_iastore (pc := 836) (by decide +kernel)) <|
  n_cd (s_up fun G => s_dup (pc := 837) (by decide +kernel)) <|
  n_cd (s_up fun G => s_bipush (pc := 838) (n := 125) (by decide +kernel) (by decide +kernel)) <|
  n_cd (s_up fun G => s_bipush (pc := 840) (n := 112) (by decide +kernel) (by decide +kernel)) <|
  n_cd (s_up fun G => s_iastore (pc := 842) (by decide +kernel)) <|
  n_cd (s_up fun G => s_dup (pc := 843) (by decide +kernel)) <|
  n_cd (s_up fun G => s_bipush (pc := 844) (n := 126) (by decide +kernel) (by decide +kernel)) <|
  n_cd (s_up fun G => s_bipush (pc := 846) (n := 101) (by decide +kernel) (by decide +kernel)) <|
  n_cd (s_up fun G => s_iastore (pc := 848) (by decide +kernel)) <|
  n_cd (s_up fun G => s_dup (pc := 849) (by decide +kernel)) <|
  n_cd (s_up fun G => s_bipush (pc := 850) (n := 127) (by decide +kernel) (by decide +kernel)) <|
  n_cd (s_up fun G => s_bipush (pc := 852) (n := 110) (by decide +kernel) (by decide +kernel)) <|
  n_cd (s_up fun G => s_iastore (pc := 854) (by decide +kernel)) <|
  n_cd (s_up fun G => s_dup (pc := 855) (by decide +kernel)) <|
  n_cd (s_up fun G => s_sipush (pc := 856) (n := 128) (by decide +kernel) (by decide +kernel)) <|
  n_cd (s_up fun G => s_bipush (pc := 859) (n := 32) (by decide +kernel) (by decide +kernel)) <|
  n_ed
abbrev aX12_init_14 : List (Nat × nD (Unit × nH)) := [(861, o_up (fun G => o_iastore G 862)), (862, o_up (fun G => o_dup 863)), (863, o_up (fun G => o_push (.int (129 : Int32)) 866)), (866, o_up (fun G => o_push (.int (115 : Int32)) 868)), (868, o_up (fun G => o_iastore G 869)), (869, o_up (fun G => o_dup 870)), (870, o_up (fun G => o_push (.int (130 : Int32)) 873)), (873, o_up (fun G => o_push (.int (101 : Int32)) 875)), (875, o_up (fun G => o_iastore G 876)), (876, o_up (fun G => o_dup 877)), (877, o_up (fun G => o_push (.int (131 : Int32)) 880)), (880, o_up (fun G => o_push (.int (97 : Int32)) 882)), (882, o_up (fun G => o_iastore G 883)), (883, o_up (fun G => o_dup 884)), (884, o_up (fun G => o_push (.int (132 : Int32)) 887)), (887, o_up (fun G => o_push (.int (114 : Int32)) 889)), (889, o_up (fun G => o_iastore G 890)), (890, o_up (fun G => o_dup 891)), (891, o_up (fun G => o_push (.int (133 : Int32)) 894)), (894, o_up (fun G => o_push (.int (99 : Int32)) 896)), (896, o_up (fun G => o_iastore G 897)), (897, o_up (fun G => o_dup 898)), (898, o_up (fun G => o_push (.int (134 : Int32)) 901)), (901, o_up (fun G => o_push (.int (104 : Int32)) 903)), (903, o_up (fun G => o_iastore G 904)), (904, o_up (fun G => o_dup 905)), (905, o_up (fun G => o_push (.int (135 : Int32)) 908)), (908, o_up (fun G => o_push (.int (32 : Int32)) 910)), (910, o_up (fun G => o_iastore G 911)), (911, o_up (fun G => o_dup 912)), (912, o_up (fun G => o_push (.int (136 : Int32)) 915)), (915, o_up (fun G => o_push (.int (99 : Int32)) 917)), (917, o_up (fun G => o_iastore G 918)), (918, o_up (fun G => o_dup 919)), (919, o_up (fun G => o_push (.int (137 : Int32)) 922)), (922, o_up (fun G => o_push (.int (104 : Int32)) 924)), (924, o_up (fun G => o_iastore G 925)), (925, o_up (fun G => o_dup 926)), (926, o_up (fun G => o_push (.int (138 : Int32)) 929)), (929, o_up (fun G => o_push (.int (105 : Int32)) 931))]
set_option maxRecDepth 200000 in
theorem iX12_init_14 {l : Launch} {w : nW} : n_AllD l w 0 mX12_init (fun r => (dv_v r.1, r.2)) (aX12_init_14) :=
  n_cd (s_up fun G => s_iastore (pc := 861) (by decide +kernel)) <|
  n_cd (s_up fun G => s_dup (pc := 862) (by decide +kernel)) <|
  n_cd (s_up fun G => s_sipush (pc := 863) (n := 129) (by decide +kernel) (by decide +kernel)) <|
  n_cd (s_up fun G => s_bipush (pc := 866) (n := 115) (by decide +kernel) (by decide +kernel)) <|
  n_cd (s_up fun G => s_iastore (pc := 868) (by decide +kernel)) <|
  n_cd (s_up fun G => s_dup (pc := 869) (by decide +kernel)) <|
  n_cd (s_up fun G => s_sipush (pc := 870) (n := 130) (by decide +kernel) (by decide +kernel)) <|
  n_cd (s_up fun G => s_bipush (pc := 873) (n := 101) (by decide +kernel) (by decide +kernel)) <|
  n_cd (s_up fun G => s_iastore (pc := 875) (by decide +kernel)) <|
  n_cd (s_up fun G => s_dup (pc := 876) (by decide +kernel)) <|
  n_cd (s_up fun G => s_sipush (pc := 877) (n := 131) (by decide +kernel) (by decide +kernel)) <|
  n_cd (s_up fun G => s_bipush (pc := 880) (n := 97) (by decide +kernel) (by decide +kernel)) <|
  n_cd (s_up fun G => s_iastore (pc := 882) (by decide +kernel)) <|
  n_cd (s_up fun G => s_dup (pc := 883) (by decide +kernel)) <|
  n_cd (s_up fun G => s_sipush (pc := 884) (n := 132) (by decide +kernel) (by decide +kernel)) <|
  n_cd (s_up fun G => s_bipush (pc := 887) (n := 114) (by decide +kernel) (by decide +kernel)) <|
  n_cd (s_up fun G => s_iastore (pc := 889) (by decide +kernel)) <|
  n_cd (s_up fun G => s_dup (pc := 890) (by decide +kernel)) <|
  n_cd (s_up fun G => s_sipush (pc := 891) (n := 133) (by decide +kernel) (by decide +kernel)) <|
  n_cd (s_up fun G => s_bipush (pc := 894) (n := 99) (by decide +kernel) (by decide +kernel)) <|
  n_cd (s_up fun G => s_iastore (pc := 896) (by decide +kernel)) <|
  n_cd (s_up fun G => s_dup (pc := 897) (by decide +kernel)) <|
  n_cd (s_up fun G => s_sipush (pc := 898) (n := 134) (by decide +kernel) (by decide +kernel)) <|
  n_cd (s_up fun G => s_bipush (pc := 901) (n := 104) (by decide +kernel) (by decide +kernel)) <|
  n_cd (s_up fun G => s_iastore (pc := 903) (by decide +kernel)) <|
  n_cd (s_up fun G => s_dup (pc := 904) (by decide +kernel)) <|
  n_cd (s_up fun G => s_sipush (pc := 905) (n := 135) (by decide +kernel) (by decide +kernel)) <|
  n_cd (s_up fun G => s_bipush (pc := 908) (n := 32) (by decide +kernel) (by decide +kernel)) <|
  n_cd (s_up fun G => s_iastore (pc := 910) (by decide +kernel)) <|
  n_cd (s_up fun G => s_dup (pc := 911) (by decide +kernel)) <|
  n_cd (s_up fun G => s_sipush (pc := 912) (n := 136) (by decide +kernel) (by decide +kernel)) <|
  n_cd (s_up fun G => s_bipush (pc := 915) (n := 99) (by decide +kernel) (by decide +kernel)) <|
  n_cd (s_up fun G => s_iastore (pc := 917) (by decide +kernel)) <|
  n_cd (s_up fun G => s_dup (pc := 918) (by decide +kernel)) <|
  n_cd (s_up fun G => s_sipush (pc := 919) (n := 137) (by decide +kernel) (by decide +kernel)) <|
  n_cd (s_up fun G => s_bipush (pc := 922) (n := 104) (by decide +kernel) (by decide +kernel)) <|
  n_cd (s_up fun G => s_iastore (pc := 924) (by decide +kernel)) <|
  n_cd (s_up fun G => s_dup (pc := 925) (by decide +kernel)) <|
  n_cd (s_up fun G => s_sipush (pc := 926) (n := 138) (by decide +kernel) (by decide +kernel)) <|
  n_cd (s_up fun G => s_bipush (pc := 929) (n := 105) (by decide +kernel) (by decide +kernel)) <|
  n_ed
abbrev aX12_init_15 : List (Nat × nD (Unit × nH)) := [(931, o_up (fun G => o_iastore G 932)), (932, o_up (fun G => o_dup 933)), (933, o_up (fun G => o_push (.int (139 : Int32)) 936)), (936, o_up (fun G => o_push (.int (108 : Int32)) 938)), (938, o_up (fun G => o_iastore G 939)), (939, o_up (fun G => o_dup 940)), (940, o_up (fun G => o_push (.int (140 : Int32)) 943)), (943, o_up (fun G => o_push (.int (100 : Int32)) 945)), (945, o_up (fun G => o_iastore G 946)), (946, o_up (fun G => o_dup 947)), (947, o_up (fun G => o_push (.int (141 : Int32)) 950)), (950, o_up (fun G => o_push (.int (32 : Int32)) 952)), (952, o_up (fun G => o_iastore G 953)), (953, o_up (fun G => o_dup 954)), (954, o_up (fun G => o_push (.int (142 : Int32)) 957)), (957, o_up (fun G => o_push (.int (111 : Int32)) 959)), (959, o_up (fun G => o_iastore G 960)), (960, o_up (fun G => o_dup 961)), (961, o_up (fun G => o_push (.int (143 : Int32)) 964)), (964, o_up (fun G => o_push (.int (102 : Int32)) 966)), (966, o_up (fun G => o_iastore G 967)), (967, o_up (fun G => o_dup 968)), (968, o_up (fun G => o_push (.int (144 : Int32)) 971)), (971, o_up (fun G => o_push (.int (32 : Int32)) 973)), (973, o_up (fun G => o_iastore G 974)), (974, o_putR 12 20 977), (977, o_up (fun G => o_aload 0 978)), (978, o_up (fun G => o_push (.int (2 : Int32)) 979)), (979, o_newa 14 4 981), (981, o_putR 12 21 984), (984, o_up (fun G => o_aload 0 985)), (985, o_up (fun G => o_push (.int (48 : Int32)) 987)), (987, o_newa 14 4 989), (989, o_putR 12 22 992), (992, o_up (fun G => o_aload 0 993)), (993, o_up (fun G => o_push (.int (48 : Int32)) 995)), (995, o_newa 14 4 997), (997, o_putR 12 23 1000), (1000, o_up (fun G => o_aload 0 1001)), (1001, o_up (fun G => o_push (.int (48 : Int32)) 1003))]
set_option maxRecDepth 200000 in
theorem iX12_init_15 {l : Launch} {w : nW} : n_AllD l w 0 mX12_init (fun r => (dv_v r.1, r.2)) (aX12_init_15) :=
  n_cd (s_up fun G => s_iastore (pc := 931) (by decide +kernel)) <|
  n_cd (s_up fun G => s_dup (pc := 932) (by decide +kernel)) <|
  n_cd (s_up fun G => s_sipush (pc := 933) (n := 139) (by decide +kernel) (by decide +kernel)) <|
  n_cd (s_up fun G => s_bipush (pc := 936) (n := 108) (by decide +kernel) (by decide +kernel)) <|
  n_cd (s_up fun G => s_iastore (pc := 938) (by decide +kernel)) <|
  n_cd (s_up fun G => s_dup (pc := 939) (by decide +kernel)) <|
  n_cd (s_up fun G => s_sipush (pc := 940) (n := 140) (by decide +kernel) (by decide +kernel)) <|
  n_cd (s_up fun G => s_bipush (pc := 943) (n := 100) (by decide +kernel) (by decide +kernel)) <|
  n_cd (s_up fun G => s_iastore (pc := 945) (by decide +kernel)) <|
  n_cd (s_up fun G => s_dup (pc := 946) (by decide +kernel)) <|
  n_cd (s_up fun G => s_sipush (pc := 947) (n := 141) (by decide +kernel) (by decide +kernel)) <|
  n_cd (s_up fun G => s_bipush (pc := 950) (n := 32) (by decide +kernel) (by decide +kernel)) <|
  n_cd (s_up fun G => s_iastore (pc := 952) (by decide +kernel)) <|
  n_cd (s_up fun G => s_dup (pc := 953) (by decide +kernel)) <|
  n_cd (s_up fun G => s_sipush (pc := 954) (n := 142) (by decide +kernel) (by decide +kernel)) <|
  n_cd (s_up fun G => s_bipush (pc := 957) (n := 111) (by decide +kernel) (by decide +kernel)) <|
  n_cd (s_up fun G => s_iastore (pc := 959) (by decide +kernel)) <|
  n_cd (s_up fun G => s_dup (pc := 960) (by decide +kernel)) <|
  n_cd (s_up fun G => s_sipush (pc := 961) (n := 143) (by decide +kernel) (by decide +kernel)) <|
  n_cd (s_up fun G => s_bipush (pc := 964) (n := 102) (by decide +kernel) (by decide +kernel)) <|
  n_cd (s_up fun G => s_iastore (pc := 966) (by decide +kernel)) <|
  n_cd (s_up fun G => s_dup (pc := 967) (by decide +kernel)) <|
  n_cd (s_up fun G => s_sipush (pc := 968) (n := 144) (by decide +kernel) (by decide +kernel)) <|
  n_cd (s_up fun G => s_bipush (pc := 971) (n := 32) (by decide +kernel) (by decide +kernel)) <|
  n_cd (s_up fun G => s_iastore (pc := 973) (by decide +kernel)) <|
  n_cd (s_putRF (pc := 974) (ci := 12) (k := 20) (idx := 40) nok12 (by decide) rfl rfl rfl rfl (by decide +kernel) w_1427) <|
  n_cd (s_up fun G => s_aload_n (pc := 977) (k := 0) (by decide +kernel)) <|
  n_cd (s_up fun G => s_iconst (pc := 978) (n := 2) (by decide +kernel) (by decide +kernel)) <|
  n_cd (s_newI (pc := 979) w_221 (by decide +kernel)) <|
  n_cd (s_putRF (pc := 981) (ci := 12) (k := 21) (idx := 43) nok12 (by decide) rfl rfl rfl rfl (by decide +kernel) w_1428) <|
  n_cd (s_up fun G => s_aload_n (pc := 984) (k := 0) (by decide +kernel)) <|
  n_cd (s_up fun G => s_bipush (pc := 985) (n := 48) (by decide +kernel) (by decide +kernel)) <|
  n_cd (s_newI (pc := 987) w_221 (by decide +kernel)) <|
  n_cd (s_putRF (pc := 989) (ci := 12) (k := 22) (idx := 46) nok12 (by decide) rfl rfl rfl rfl (by decide +kernel) w_1429) <|
  n_cd (s_up fun G => s_aload_n (pc := 992) (k := 0) (by decide +kernel)) <|
  n_cd (s_up fun G => s_bipush (pc := 993) (n := 48) (by decide +kernel) (by decide +kernel)) <|
  n_cd (s_newI (pc := 995) w_221 (by decide +kernel)) <|
  n_cd (s_putRF (pc := 997) (ci := 12) (k := 23) (idx := 49) nok12 (by decide) rfl rfl rfl rfl (by decide +kernel) w_1430) <|
  n_cd (s_up fun G => s_aload_n (pc := 1000) (k := 0) (by decide +kernel)) <|
  n_cd (s_up fun G => s_bipush (pc := 1001) (n := 48) (by decide +kernel) (by decide +kernel)) <|
  n_ed
abbrev aX12_init_16 : List (Nat × nD (Unit × nH)) := [(1003, o_newa 14 4 1005), (1005, o_putR 12 24 1008), (1008, o_up (fun G => o_aload 0 1009)), (1009, o_up (fun G => o_push (.int (48 : Int32)) 1011)), (1011, o_newa 14 4 1013), (1013, o_putR 12 25 1016), (1016, o_up (fun G => o_aload 0 1017)), (1017, o_up (fun G => o_push (.int (1200 : Int32)) 1020)), (1020, o_newa 14 4 1022), (1022, o_putR 12 26 1025), (1025, o_up (fun G => o_aload 0 1026)), (1026, o_up (fun G => o_push (.int (1200 : Int32)) 1029)), (1029, o_newa 14 4 1031), (1031, o_putR 12 27 1034), (1034, o_up (fun G => o_aload 0 1035)), (1035, o_up (fun G => o_push (.int (40 : Int32)) 1037)), (1037, o_newa 14 4 1039), (1039, o_putR 12 31 1042), (1042, o_up (fun G => o_aload 0 1043)), (1043, o_up (fun G => o_push (.int (-1 : Int32)) 1044)), (1044, o_up (fun G => o_putI G 12 36 1047)), (1047, o_up (fun G => o_aload 0 1048)), (1048, o_up (fun G => o_push (.int (128 : Int32)) 1051)), (1051, o_newa 14 4 1053), (1053, o_putR 12 38 1056), (1056, o_up (fun G => o_aload 0 1057)), (1057, o_up (fun G => o_push (.int (128 : Int32)) 1060)), (1060, o_newa 14 4 1062), (1062, o_putR 12 40 1065), (1065, o_up (fun G => o_aload 0 1066)), (1066, o_up (fun G => o_push (.int (24 : Int32)) 1068)), (1068, o_newa 14 4 1070), (1070, o_putR 12 42 1073), (1073, o_up (fun G => o_aload 0 1074)), (1074, o_up (fun G => o_push (.int (12 : Int32)) 1076)), (1076, o_newa 14 4 1078), (1078, o_putR 12 43 1081), (1081, o_up (fun G => o_aload 0 1082)), (1082, o_up (fun G => o_push (.int (11 : Int32)) 1084)), (1084, o_newa 14 4 1086)]
set_option maxRecDepth 200000 in
theorem iX12_init_16 {l : Launch} {w : nW} : n_AllD l w 0 mX12_init (fun r => (dv_v r.1, r.2)) (aX12_init_16) :=
  n_cd (s_newI (pc := 1003) w_221 (by decide +kernel)) <|
  n_cd (s_putRF (pc := 1005) (ci := 12) (k := 24) (idx := 52) nok12 (by decide) rfl rfl rfl rfl (by decide +kernel) w_1431) <|
  n_cd (s_up fun G => s_aload_n (pc := 1008) (k := 0) (by decide +kernel)) <|
  n_cd (s_up fun G => s_bipush (pc := 1009) (n := 48) (by decide +kernel) (by decide +kernel)) <|
  n_cd (s_newI (pc := 1011) w_221 (by decide +kernel)) <|
  n_cd (s_putRF (pc := 1013) (ci := 12) (k := 25) (idx := 55) nok12 (by decide) rfl rfl rfl rfl (by decide +kernel) w_1432) <|
  n_cd (s_up fun G => s_aload_n (pc := 1016) (k := 0) (by decide +kernel)) <|
  n_cd (s_up fun G => s_sipush (pc := 1017) (n := 1200) (by decide +kernel) (by decide +kernel)) <|
  n_cd (s_newI (pc := 1020) w_221 (by decide +kernel)) <|
  n_cd (s_putRF (pc := 1022) (ci := 12) (k := 26) (idx := 58) nok12 (by decide) rfl rfl rfl rfl (by decide +kernel) w_1433) <|
  n_cd (s_up fun G => s_aload_n (pc := 1025) (k := 0) (by decide +kernel)) <|
  n_cd (s_up fun G => s_sipush (pc := 1026) (n := 1200) (by decide +kernel) (by decide +kernel)) <|
  n_cd (s_newI (pc := 1029) w_221 (by decide +kernel)) <|
  n_cd (s_putRF (pc := 1031) (ci := 12) (k := 27) (idx := 61) nok12 (by decide) rfl rfl rfl rfl (by decide +kernel) w_1434) <|
  n_cd (s_up fun G => s_aload_n (pc := 1034) (k := 0) (by decide +kernel)) <|
  n_cd (s_up fun G => s_bipush (pc := 1035) (n := 40) (by decide +kernel) (by decide +kernel)) <|
  n_cd (s_newI (pc := 1037) w_221 (by decide +kernel)) <|
  n_cd (s_putRF (pc := 1039) (ci := 12) (k := 31) (idx := 64) nok12 (by decide) rfl rfl rfl rfl (by decide +kernel) w_1438) <|
  n_cd (s_up fun G => s_aload_n (pc := 1042) (k := 0) (by decide +kernel)) <|
  n_cd (s_up fun G => s_iconst (pc := 1043) (n := -1) (by decide +kernel) (by decide +kernel)) <|
  n_cd (s_up fun G => s_putI (pc := 1044) (ci := 12) (k := 36) (idx := 67) nok12 (by decide) rfl rfl (by decide +kernel) w_1443) <|
  n_cd (s_up fun G => s_aload_n (pc := 1047) (k := 0) (by decide +kernel)) <|
  n_cd (s_up fun G => s_sipush (pc := 1048) (n := 128) (by decide +kernel) (by decide +kernel)) <|
  n_cd (s_newI (pc := 1051) w_221 (by decide +kernel)) <|
  n_cd (s_putRF (pc := 1053) (ci := 12) (k := 38) (idx := 71) nok12 (by decide) rfl rfl rfl rfl (by decide +kernel) w_1445) <|
  n_cd (s_up fun G => s_aload_n (pc := 1056) (k := 0) (by decide +kernel)) <|
  n_cd (s_up fun G => s_sipush (pc := 1057) (n := 128) (by decide +kernel) (by decide +kernel)) <|
  n_cd (s_newI (pc := 1060) w_221 (by decide +kernel)) <|
  n_cd (s_putRF (pc := 1062) (ci := 12) (k := 40) (idx := 74) nok12 (by decide) rfl rfl rfl rfl (by decide +kernel) w_1447) <|
  n_cd (s_up fun G => s_aload_n (pc := 1065) (k := 0) (by decide +kernel)) <|
  n_cd (s_up fun G => s_bipush (pc := 1066) (n := 24) (by decide +kernel) (by decide +kernel)) <|
  n_cd (s_newI (pc := 1068) w_221 (by decide +kernel)) <|
  n_cd (s_putRF (pc := 1070) (ci := 12) (k := 42) (idx := 77) nok12 (by decide) rfl rfl rfl rfl (by decide +kernel) w_1449) <|
  n_cd (s_up fun G => s_aload_n (pc := 1073) (k := 0) (by decide +kernel)) <|
  n_cd (s_up fun G => s_bipush (pc := 1074) (n := 12) (by decide +kernel) (by decide +kernel)) <|
  n_cd (s_newI (pc := 1076) w_221 (by decide +kernel)) <|
  n_cd (s_putRF (pc := 1078) (ci := 12) (k := 43) (idx := 80) nok12 (by decide) rfl rfl rfl rfl (by decide +kernel) w_1450) <|
  n_cd (s_up fun G => s_aload_n (pc := 1081) (k := 0) (by decide +kernel)) <|
  n_cd (s_up fun G => s_bipush (pc := 1082) (n := 11) (by decide +kernel) (by decide +kernel)) <|
  n_cd (s_newI (pc := 1084) w_221 (by decide +kernel)) <|
  n_ed
abbrev aX12_init_17 : List (Nat × nD (Unit × nH)) := [(1086, o_putR 12 44 1089), (1089, o_up (fun G => o_aload 0 1090)), (1090, o_up (fun G => o_push (.int (420 : Int32)) 1093)), (1093, o_newa 14 4 1095), (1095, o_putR 12 45 1098), (1098, o_up (fun G => o_aload 0 1099)), (1099, o_up (fun G => o_push (.int (16 : Int32)) 1101)), (1101, o_newa 14 4 1103), (1103, o_putR 12 47 1106), (1106, o_up (fun G => o_aload 0 1107)), (1107, o_up (fun G => o_push (.int (16 : Int32)) 1109)), (1109, o_newa 14 4 1111), (1111, o_putR 12 48 1114), (1114, o_up (fun G => o_aload 0 1115)), (1115, o_up (fun G => o_push (.int (4 : Int32)) 1116)), (1116, o_newa 14 4 1118), (1118, o_putR 12 50 1121), (1121, o_up (fun G => o_aload 0 1122)), (1122, o_up (fun G => o_push (.int (8 : Int32)) 1124)), (1124, o_newa 14 4 1126), (1126, o_putR 12 52 1129), (1129, o_up (fun G => o_aload 0 1130)), (1130, o_up (fun G => o_push (.int (8 : Int32)) 1132)), (1132, o_newa 14 4 1134), (1134, o_putR 12 53 1137), (1137, o_up (fun G => o_aload 0 1138)), (1138, o_up (fun G => o_push (.int (8 : Int32)) 1140)), (1140, o_newa 14 4 1142), (1142, o_putR 12 54 1145), (1145, o_up (fun G => o_aload 0 1146)), (1146, o_up (fun G => o_push (.int (10 : Int32)) 1148)), (1148, o_newa 14 4 1150), (1150, o_putR 12 56 1153), (1153, o_up (fun G => o_aload 0 1154)), (1154, o_up (fun G => o_push (.int (40 : Int32)) 1156)), (1156, o_newa 14 4 1158), (1158, o_putR 12 57 1161), (1161, o_up (fun G => o_aload 0 1162)), (1162, o_up (fun G => o_push (.int (12 : Int32)) 1164)), (1164, o_newa 14 4 1166)]
set_option maxRecDepth 200000 in
theorem iX12_init_17 {l : Launch} {w : nW} : n_AllD l w 0 mX12_init (fun r => (dv_v r.1, r.2)) (aX12_init_17) :=
  n_cd (s_putRF (pc := 1086) (ci := 12) (k := 44) (idx := 83) nok12 (by decide) rfl rfl rfl rfl (by decide +kernel) w_1451) <|
  n_cd (s_up fun G => s_aload_n (pc := 1089) (k := 0) (by decide +kernel)) <|
  n_cd (s_up fun G => s_sipush (pc := 1090) (n := 420) (by decide +kernel) (by decide +kernel)) <|
  n_cd (s_newI (pc := 1093) w_221 (by decide +kernel)) <|
  n_cd (s_putRF (pc := 1095) (ci := 12) (k := 45) (idx := 86) nok12 (by decide) rfl rfl rfl rfl (by decide +kernel) w_1452) <|
  n_cd (s_up fun G => s_aload_n (pc := 1098) (k := 0) (by decide +kernel)) <|
  n_cd (s_up fun G => s_bipush (pc := 1099) (n := 16) (by decide +kernel) (by decide +kernel)) <|
  n_cd (s_newI (pc := 1101) w_221 (by decide +kernel)) <|
  n_cd (s_putRF (pc := 1103) (ci := 12) (k := 47) (idx := 89) nok12 (by decide) rfl rfl rfl rfl (by decide +kernel) w_1454) <|
  n_cd (s_up fun G => s_aload_n (pc := 1106) (k := 0) (by decide +kernel)) <|
  n_cd (s_up fun G => s_bipush (pc := 1107) (n := 16) (by decide +kernel) (by decide +kernel)) <|
  n_cd (s_newI (pc := 1109) w_221 (by decide +kernel)) <|
  n_cd (s_putRF (pc := 1111) (ci := 12) (k := 48) (idx := 92) nok12 (by decide) rfl rfl rfl rfl (by decide +kernel) w_1455) <|
  n_cd (s_up fun G => s_aload_n (pc := 1114) (k := 0) (by decide +kernel)) <|
  n_cd (s_up fun G => s_iconst (pc := 1115) (n := 4) (by decide +kernel) (by decide +kernel)) <|
  n_cd (s_newI (pc := 1116) w_221 (by decide +kernel)) <|
  n_cd (s_putRF (pc := 1118) (ci := 12) (k := 50) (idx := 95) nok12 (by decide) rfl rfl rfl rfl (by decide +kernel) w_1457) <|
  n_cd (s_up fun G => s_aload_n (pc := 1121) (k := 0) (by decide +kernel)) <|
  n_cd (s_up fun G => s_bipush (pc := 1122) (n := 8) (by decide +kernel) (by decide +kernel)) <|
  n_cd (s_newI (pc := 1124) w_221 (by decide +kernel)) <|
  n_cd (s_putRF (pc := 1126) (ci := 12) (k := 52) (idx := 98) nok12 (by decide) rfl rfl rfl rfl (by decide +kernel) w_1459) <|
  n_cd (s_up fun G => s_aload_n (pc := 1129) (k := 0) (by decide +kernel)) <|
  n_cd (s_up fun G => s_bipush (pc := 1130) (n := 8) (by decide +kernel) (by decide +kernel)) <|
  n_cd (s_newI (pc := 1132) w_221 (by decide +kernel)) <|
  n_cd (s_putRF (pc := 1134) (ci := 12) (k := 53) (idx := 101) nok12 (by decide) rfl rfl rfl rfl (by decide +kernel) w_1460) <|
  n_cd (s_up fun G => s_aload_n (pc := 1137) (k := 0) (by decide +kernel)) <|
  n_cd (s_up fun G => s_bipush (pc := 1138) (n := 8) (by decide +kernel) (by decide +kernel)) <|
  n_cd (s_newI (pc := 1140) w_221 (by decide +kernel)) <|
  n_cd (s_putRF (pc := 1142) (ci := 12) (k := 54) (idx := 104) nok12 (by decide) rfl rfl rfl rfl (by decide +kernel) w_1461) <|
  n_cd (s_up fun G => s_aload_n (pc := 1145) (k := 0) (by decide +kernel)) <|
  n_cd (s_up fun G => s_bipush (pc := 1146) (n := 10) (by decide +kernel) (by decide +kernel)) <|
  n_cd (s_newI (pc := 1148) w_221 (by decide +kernel)) <|
  n_cd (s_putRF (pc := 1150) (ci := 12) (k := 56) (idx := 107) nok12 (by decide) rfl rfl rfl rfl (by decide +kernel) w_1463) <|
  n_cd (s_up fun G => s_aload_n (pc := 1153) (k := 0) (by decide +kernel)) <|
  n_cd (s_up fun G => s_bipush (pc := 1154) (n := 40) (by decide +kernel) (by decide +kernel)) <|
  n_cd (s_newI (pc := 1156) w_221 (by decide +kernel)) <|
  n_cd (s_putRF (pc := 1158) (ci := 12) (k := 57) (idx := 110) nok12 (by decide) rfl rfl rfl rfl (by decide +kernel) w_1464) <|
  n_cd (s_up fun G => s_aload_n (pc := 1161) (k := 0) (by decide +kernel)) <|
  n_cd (s_up fun G => s_bipush (pc := 1162) (n := 12) (by decide +kernel) (by decide +kernel)) <|
  n_cd (s_newI (pc := 1164) w_221 (by decide +kernel)) <|
  n_ed
abbrev aX12_init_18 : List (Nat × nD (Unit × nH)) := [(1166, o_putR 12 58 1169), (1169, o_up (fun G => o_aload 0 1170)), (1170, o_up (fun G => o_push (.int (12 : Int32)) 1172)), (1172, o_newa 14 4 1174), (1174, o_putR 12 59 1177), (1177, o_up (fun G => o_aload 0 1178)), (1178, o_up (fun G => o_push (.int (36 : Int32)) 1180)), (1180, o_newa 14 4 1182), (1182, o_putR 12 63 1185), (1185, o_up (fun G => o_aload 0 1186)), (1186, o_up (fun G => o_push (.int (10 : Int32)) 1188)), (1188, o_newa 14 4 1190), (1190, o_putR 12 66 1193), (1193, o_up (fun G => o_aload 0 1194)), (1194, o_up (fun G => o_push (.int (10 : Int32)) 1196)), (1196, o_newa 14 4 1198), (1198, o_putR 12 67 1201), (1201, o_up (fun G => o_aload 0 1202)), (1202, o_up (fun G => o_push (.int (10 : Int32)) 1204)), (1204, o_newa 14 4 1206), (1206, o_putR 12 68 1209), (1209, o_up (fun G => o_aload 0 1210)), (1210, o_up (fun G => o_push (.int (8 : Int32)) 1212)), (1212, o_newa 14 4 1214), (1214, o_putR 12 69 1217), (1217, o_up (fun G => o_aload 0 1218)), (1218, o_up (fun G => o_push (.int (6 : Int32)) 1220)), (1220, o_newa 14 4 1222), (1222, o_putR 12 71 1225), (1225, o_up (fun G => o_aload 0 1226)), (1226, o_up (fun G => o_push (.int (5 : Int32)) 1227)), (1227, o_newa 14 4 1229), (1229, o_putR 12 73 1232), (1232, o_up (fun G => o_aload 0 1233)), (1233, o_up (fun G => o_push (.int (31 : Int32)) 1235)), (1235, o_newa 14 4 1237), (1237, o_putR 12 74 1240), (1240, o_up (fun G => o_aload 0 1241)), (1241, o_up (fun G => o_push (.int (2400 : Int32)) 1244)), (1244, o_newa 14 4 1246)]
set_option maxRecDepth 200000 in
theorem iX12_init_18 {l : Launch} {w : nW} : n_AllD l w 0 mX12_init (fun r => (dv_v r.1, r.2)) (aX12_init_18) :=
  n_cd (s_putRF (pc := 1166) (ci := 12) (k := 58) (idx := 113) nok12 (by decide) rfl rfl rfl rfl (by decide +kernel) w_1465) <|
  n_cd (s_up fun G => s_aload_n (pc := 1169) (k := 0) (by decide +kernel)) <|
  n_cd (s_up fun G => s_bipush (pc := 1170) (n := 12) (by decide +kernel) (by decide +kernel)) <|
  n_cd (s_newI (pc := 1172) w_221 (by decide +kernel)) <|
  n_cd (s_putRF (pc := 1174) (ci := 12) (k := 59) (idx := 116) nok12 (by decide) rfl rfl rfl rfl (by decide +kernel) w_1466) <|
  n_cd (s_up fun G => s_aload_n (pc := 1177) (k := 0) (by decide +kernel)) <|
  n_cd (s_up fun G => s_bipush (pc := 1178) (n := 36) (by decide +kernel) (by decide +kernel)) <|
  n_cd (s_newI (pc := 1180) w_221 (by decide +kernel)) <|
  n_cd (s_putRF (pc := 1182) (ci := 12) (k := 63) (idx := 119) nok12 (by decide) rfl rfl rfl rfl (by decide +kernel) w_1470) <|
  n_cd (s_up fun G => s_aload_n (pc := 1185) (k := 0) (by decide +kernel)) <|
  n_cd (s_up fun G => s_bipush (pc := 1186) (n := 10) (by decide +kernel) (by decide +kernel)) <|
  n_cd (s_newI (pc := 1188) w_221 (by decide +kernel)) <|
  n_cd (s_putRF (pc := 1190) (ci := 12) (k := 66) (idx := 122) nok12 (by decide) rfl rfl rfl rfl (by decide +kernel) w_1473) <|
  n_cd (s_up fun G => s_aload_n (pc := 1193) (k := 0) (by decide +kernel)) <|
  n_cd (s_up fun G => s_bipush (pc := 1194) (n := 10) (by decide +kernel) (by decide +kernel)) <|
  n_cd (s_newI (pc := 1196) w_221 (by decide +kernel)) <|
  n_cd (s_putRF (pc := 1198) (ci := 12) (k := 67) (idx := 125) nok12 (by decide) rfl rfl rfl rfl (by decide +kernel) w_1474) <|
  n_cd (s_up fun G => s_aload_n (pc := 1201) (k := 0) (by decide +kernel)) <|
  n_cd (s_up fun G => s_bipush (pc := 1202) (n := 10) (by decide +kernel) (by decide +kernel)) <|
  n_cd (s_newI (pc := 1204) w_221 (by decide +kernel)) <|
  n_cd (s_putRF (pc := 1206) (ci := 12) (k := 68) (idx := 128) nok12 (by decide) rfl rfl rfl rfl (by decide +kernel) w_1475) <|
  n_cd (s_up fun G => s_aload_n (pc := 1209) (k := 0) (by decide +kernel)) <|
  n_cd (s_up fun G => s_bipush (pc := 1210) (n := 8) (by decide +kernel) (by decide +kernel)) <|
  n_cd (s_newI (pc := 1212) w_221 (by decide +kernel)) <|
  n_cd (s_putRF (pc := 1214) (ci := 12) (k := 69) (idx := 131) nok12 (by decide) rfl rfl rfl rfl (by decide +kernel) w_1476) <|
  n_cd (s_up fun G => s_aload_n (pc := 1217) (k := 0) (by decide +kernel)) <|
  n_cd (s_up fun G => s_bipush (pc := 1218) (n := 6) (by decide +kernel) (by decide +kernel)) <|
  n_cd (s_newI (pc := 1220) w_221 (by decide +kernel)) <|
  n_cd (s_putRF (pc := 1222) (ci := 12) (k := 71) (idx := 134) nok12 (by decide) rfl rfl rfl rfl (by decide +kernel) w_1478) <|
  n_cd (s_up fun G => s_aload_n (pc := 1225) (k := 0) (by decide +kernel)) <|
  n_cd (s_up fun G => s_iconst (pc := 1226) (n := 5) (by decide +kernel) (by decide +kernel)) <|
  n_cd (s_newI (pc := 1227) w_221 (by decide +kernel)) <|
  n_cd (s_putRF (pc := 1229) (ci := 12) (k := 73) (idx := 137) nok12 (by decide) rfl rfl rfl rfl (by decide +kernel) w_1480) <|
  n_cd (s_up fun G => s_aload_n (pc := 1232) (k := 0) (by decide +kernel)) <|
  n_cd (s_up fun G => s_bipush (pc := 1233) (n := 31) (by decide +kernel) (by decide +kernel)) <|
  n_cd (s_newI (pc := 1235) w_221 (by decide +kernel)) <|
  n_cd (s_putRF (pc := 1237) (ci := 12) (k := 74) (idx := 140) nok12 (by decide) rfl rfl rfl rfl (by decide +kernel) w_1481) <|
  n_cd (s_up fun G => s_aload_n (pc := 1240) (k := 0) (by decide +kernel)) <|
  n_cd (s_up fun G => s_sipush (pc := 1241) (n := 2400) (by decide +kernel) (by decide +kernel)) <|
  n_cd (s_newI (pc := 1244) w_221 (by decide +kernel)) <|
  n_ed
abbrev aX12_init_19 : List (Nat × nD (Unit × nH)) := [(1246, o_putR 12 78 1249), (1249, o_vretd)]
set_option maxRecDepth 200000 in
theorem iX12_init_19 {l : Launch} {w : nW} : n_AllD l w 0 mX12_init (fun r => (dv_v r.1, r.2)) (aX12_init_19) :=
  n_cd (s_putRF (pc := 1246) (ci := 12) (k := 78) (idx := 143) nok12 (by decide) rfl rfl rfl rfl (by decide +kernel) w_1485) <|
  n_cd (s_vretd (pc := 1249) rfl (by decide +kernel)) <|
  n_ed
abbrev aX12_init : List (Nat × nD (Unit × nH)) := aX12_init_0 ++ (aX12_init_1 ++ (aX12_init_2 ++ (aX12_init_3 ++ (aX12_init_4 ++ (aX12_init_5 ++ (aX12_init_6 ++ (aX12_init_7 ++ (aX12_init_8 ++ (aX12_init_9 ++ (aX12_init_10 ++ (aX12_init_11 ++ (aX12_init_12 ++ (aX12_init_13 ++ (aX12_init_14 ++ (aX12_init_15 ++ (aX12_init_16 ++ (aX12_init_17 ++ (aX12_init_18 ++ (aX12_init_19)))))))))))))))))))
theorem iX12_init {l : Launch} {w : nW} : n_AllD l w 0 mX12_init (fun r => (dv_v r.1, r.2)) (aX12_init) := (n_AllD.app (iX12_init_0) (n_AllD.app (iX12_init_1) (n_AllD.app (iX12_init_2) (n_AllD.app (iX12_init_3) (n_AllD.app (iX12_init_4) (n_AllD.app (iX12_init_5) (n_AllD.app (iX12_init_6) (n_AllD.app (iX12_init_7) (n_AllD.app (iX12_init_8) (n_AllD.app (iX12_init_9) (n_AllD.app (iX12_init_10) (n_AllD.app (iX12_init_11) (n_AllD.app (iX12_init_12) (n_AllD.app (iX12_init_13) (n_AllD.app (iX12_init_14) (n_AllD.app (iX12_init_15) (n_AllD.app (iX12_init_16) (n_AllD.app (iX12_init_17) (n_AllD.app (iX12_init_18) (iX12_init_19))))))))))))))))))))
def fX12_init_1237 (x0 : Nat) (s0 : Nat) (s1 : Nat) (hh : nH) : Option (Unit × nH) :=
  n_chk (Nat.beq (n_kd hh.1 s1) 12) <|
  let h1 : nH := n_upR hh s1 74 s0
  n_chk (!decide ((2400 : Int32) < 0) && Nat.ble ((2400 : Int32).toNatClampNeg * 4) 536870912) <|
  let a2 : Nat := n_n h1.1 + 1
  let h3 : nH := n_alloc h1 14 (2400 : Int32).toNatClampNeg
  n_chk (Nat.beq (n_kd h3.1 x0) 12) <|
  let h4 : nH := n_upR h3 x0 78 a2
  some ((), h4)
set_option maxRecDepth 200000 in
theorem bX12_init_1237 {l : Launch} {w : nW} (x0 : Nat) (s0 : Nat) (s1 : Nat) (hh : nH) (r : Unit × nH) (h : fX12_init_1237 x0 s0 s1 hh = some r) : n_At l w 0 mX12_init 1237 [(0, .ref x0)] [.ref s0, .ref s1] hh (dv_v r.1, r.2) :=
  n_segd (K := []) (fin := fun r => (dv_v r.1, r.2)) 9 (iX12_init) n_ked (by rfl) h
def fX12_init_1209 (x0 : Nat) (hh : nH) : Option (Unit × nH) :=
  n_chk (!decide ((8 : Int32) < 0) && Nat.ble ((8 : Int32).toNatClampNeg * 4) 536870912) <|
  let a1 : Nat := n_n hh.1 + 1
  let h2 : nH := n_alloc hh 14 (8 : Int32).toNatClampNeg
  n_chk (Nat.beq (n_kd h2.1 x0) 12) <|
  let h3 : nH := n_upR h2 x0 69 a1
  n_chk (!decide ((6 : Int32) < 0) && Nat.ble ((6 : Int32).toNatClampNeg * 4) 536870912) <|
  let a4 : Nat := n_n h3.1 + 1
  let h5 : nH := n_alloc h3 14 (6 : Int32).toNatClampNeg
  n_chk (Nat.beq (n_kd h5.1 x0) 12) <|
  let h6 : nH := n_upR h5 x0 71 a4
  n_chk (!decide ((5 : Int32) < 0) && Nat.ble ((5 : Int32).toNatClampNeg * 4) 536870912) <|
  let a7 : Nat := n_n h6.1 + 1
  let h8 : nH := n_alloc h6 14 (5 : Int32).toNatClampNeg
  n_chk (Nat.beq (n_kd h8.1 x0) 12) <|
  let h9 : nH := n_upR h8 x0 73 a7
  n_chk (!decide ((31 : Int32) < 0) && Nat.ble ((31 : Int32).toNatClampNeg * 4) 536870912) <|
  let a10 : Nat := n_n h9.1 + 1
  let h11 : nH := n_alloc h9 14 (31 : Int32).toNatClampNeg
  fX12_init_1237 x0 a10 x0 h11
set_option maxRecDepth 200000 in
theorem bX12_init_1209 {l : Launch} {w : nW} (x0 : Nat) (hh : nH) (r : Unit × nH) (h : fX12_init_1209 x0 hh = some r) : n_At l w 0 mX12_init 1209 [(0, .ref x0)] [] hh (dv_v r.1, r.2) :=
  n_segd (K := [(1237, fun lv st hh => n_lR lv 0 (fun x0 => n_pR st (fun s0 st => n_pR st (fun s1 st => n_pE st (fX12_init_1237 x0 s0 s1 hh)))))]) (fin := fun r => (dv_v r.1, r.2)) 18 (iX12_init) (n_kcd (fun lv st hh r h => by
      obtain ⟨x0, e0, h1⟩ := n_lR_x h
      obtain ⟨s0, t0, rfl, h2⟩ := n_pR_x h1
      obtain ⟨s1, t1, rfl, h3⟩ := n_pR_x h2
      obtain ⟨rfl, h4⟩ := n_pE_x h3
      exact n_sub (n_qc e0 n_qe) (bX12_init_1237 x0 s0 s1 hh r h4)) n_ked) (by rfl) h
def fX12_init_1178 (x0 : Nat) (s0 : Nat) (hh : nH) : Option (Unit × nH) :=
  n_chk (!decide ((36 : Int32) < 0) && Nat.ble ((36 : Int32).toNatClampNeg * 4) 536870912) <|
  let a1 : Nat := n_n hh.1 + 1
  let h2 : nH := n_alloc hh 14 (36 : Int32).toNatClampNeg
  n_chk (Nat.beq (n_kd h2.1 s0) 12) <|
  let h3 : nH := n_upR h2 s0 63 a1
  n_chk (!decide ((10 : Int32) < 0) && Nat.ble ((10 : Int32).toNatClampNeg * 4) 536870912) <|
  let a4 : Nat := n_n h3.1 + 1
  let h5 : nH := n_alloc h3 14 (10 : Int32).toNatClampNeg
  n_chk (Nat.beq (n_kd h5.1 x0) 12) <|
  let h6 : nH := n_upR h5 x0 66 a4
  n_chk (!decide ((10 : Int32) < 0) && Nat.ble ((10 : Int32).toNatClampNeg * 4) 536870912) <|
  let a7 : Nat := n_n h6.1 + 1
  let h8 : nH := n_alloc h6 14 (10 : Int32).toNatClampNeg
  n_chk (Nat.beq (n_kd h8.1 x0) 12) <|
  let h9 : nH := n_upR h8 x0 67 a7
  n_chk (!decide ((10 : Int32) < 0) && Nat.ble ((10 : Int32).toNatClampNeg * 4) 536870912) <|
  let a10 : Nat := n_n h9.1 + 1
  let h11 : nH := n_alloc h9 14 (10 : Int32).toNatClampNeg
  n_chk (Nat.beq (n_kd h11.1 x0) 12) <|
  let h12 : nH := n_upR h11 x0 68 a10
  fX12_init_1209 x0 h12
set_option maxRecDepth 200000 in
theorem bX12_init_1178 {l : Launch} {w : nW} (x0 : Nat) (s0 : Nat) (hh : nH) (r : Unit × nH) (h : fX12_init_1178 x0 s0 hh = some r) : n_At l w 0 mX12_init 1178 [(0, .ref x0)] [.ref s0] hh (dv_v r.1, r.2) :=
  n_segd (K := [(1209, fun lv st hh => n_lR lv 0 (fun x0 => n_pE st (fX12_init_1209 x0 hh)))]) (fin := fun r => (dv_v r.1, r.2)) 18 (iX12_init) (n_kcd (fun lv st hh r h => by
      obtain ⟨x0, e0, h1⟩ := n_lR_x h
      obtain ⟨rfl, h2⟩ := n_pE_x h1
      exact n_sub (n_qc e0 n_qe) (bX12_init_1209 x0 hh r h2)) n_ked) (by rfl) h
def fX12_init_1148 (x0 : Nat) (s0 : Int32) (s1 : Nat) (hh : nH) : Option (Unit × nH) :=
  n_chk (!decide (s0 < 0) && Nat.ble (s0.toNatClampNeg * 4) 536870912) <|
  let a1 : Nat := n_n hh.1 + 1
  let h2 : nH := n_alloc hh 14 s0.toNatClampNeg
  n_chk (Nat.beq (n_kd h2.1 s1) 12) <|
  let h3 : nH := n_upR h2 s1 56 a1
  n_chk (!decide ((40 : Int32) < 0) && Nat.ble ((40 : Int32).toNatClampNeg * 4) 536870912) <|
  let a4 : Nat := n_n h3.1 + 1
  let h5 : nH := n_alloc h3 14 (40 : Int32).toNatClampNeg
  n_chk (Nat.beq (n_kd h5.1 x0) 12) <|
  let h6 : nH := n_upR h5 x0 57 a4
  n_chk (!decide ((12 : Int32) < 0) && Nat.ble ((12 : Int32).toNatClampNeg * 4) 536870912) <|
  let a7 : Nat := n_n h6.1 + 1
  let h8 : nH := n_alloc h6 14 (12 : Int32).toNatClampNeg
  n_chk (Nat.beq (n_kd h8.1 x0) 12) <|
  let h9 : nH := n_upR h8 x0 58 a7
  n_chk (!decide ((12 : Int32) < 0) && Nat.ble ((12 : Int32).toNatClampNeg * 4) 536870912) <|
  let a10 : Nat := n_n h9.1 + 1
  let h11 : nH := n_alloc h9 14 (12 : Int32).toNatClampNeg
  n_chk (Nat.beq (n_kd h11.1 x0) 12) <|
  let h12 : nH := n_upR h11 x0 59 a10
  fX12_init_1178 x0 x0 h12
set_option maxRecDepth 200000 in
theorem bX12_init_1148 {l : Launch} {w : nW} (x0 : Nat) (s0 : Int32) (s1 : Nat) (hh : nH) (r : Unit × nH) (h : fX12_init_1148 x0 s0 s1 hh = some r) : n_At l w 0 mX12_init 1148 [(0, .ref x0)] [.int s0, .ref s1] hh (dv_v r.1, r.2) :=
  n_segd (K := [(1178, fun lv st hh => n_lR lv 0 (fun x0 => n_pR st (fun s0 st => n_pE st (fX12_init_1178 x0 s0 hh))))]) (fin := fun r => (dv_v r.1, r.2)) 18 (iX12_init) (n_kcd (fun lv st hh r h => by
      obtain ⟨x0, e0, h1⟩ := n_lR_x h
      obtain ⟨s0, t0, rfl, h2⟩ := n_pR_x h1
      obtain ⟨rfl, h3⟩ := n_pE_x h2
      exact n_sub (n_qc e0 n_qe) (bX12_init_1178 x0 s0 hh r h3)) n_ked) (by rfl) h
def fX12_init_1118 (x0 : Nat) (s0 : Nat) (s1 : Nat) (hh : nH) : Option (Unit × nH) :=
  n_chk (Nat.beq (n_kd hh.1 s1) 12) <|
  let h1 : nH := n_upR hh s1 50 s0
  n_chk (!decide ((8 : Int32) < 0) && Nat.ble ((8 : Int32).toNatClampNeg * 4) 536870912) <|
  let a2 : Nat := n_n h1.1 + 1
  let h3 : nH := n_alloc h1 14 (8 : Int32).toNatClampNeg
  n_chk (Nat.beq (n_kd h3.1 x0) 12) <|
  let h4 : nH := n_upR h3 x0 52 a2
  n_chk (!decide ((8 : Int32) < 0) && Nat.ble ((8 : Int32).toNatClampNeg * 4) 536870912) <|
  let a5 : Nat := n_n h4.1 + 1
  let h6 : nH := n_alloc h4 14 (8 : Int32).toNatClampNeg
  n_chk (Nat.beq (n_kd h6.1 x0) 12) <|
  let h7 : nH := n_upR h6 x0 53 a5
  n_chk (!decide ((8 : Int32) < 0) && Nat.ble ((8 : Int32).toNatClampNeg * 4) 536870912) <|
  let a8 : Nat := n_n h7.1 + 1
  let h9 : nH := n_alloc h7 14 (8 : Int32).toNatClampNeg
  n_chk (Nat.beq (n_kd h9.1 x0) 12) <|
  let h10 : nH := n_upR h9 x0 54 a8
  fX12_init_1148 x0 (10 : Int32) x0 h10
set_option maxRecDepth 200000 in
theorem bX12_init_1118 {l : Launch} {w : nW} (x0 : Nat) (s0 : Nat) (s1 : Nat) (hh : nH) (r : Unit × nH) (h : fX12_init_1118 x0 s0 s1 hh = some r) : n_At l w 0 mX12_init 1118 [(0, .ref x0)] [.ref s0, .ref s1] hh (dv_v r.1, r.2) :=
  n_segd (K := [(1148, fun lv st hh => n_lR lv 0 (fun x0 => n_pI st (fun s0 st => n_pR st (fun s1 st => n_pE st (fX12_init_1148 x0 s0 s1 hh)))))]) (fin := fun r => (dv_v r.1, r.2)) 18 (iX12_init) (n_kcd (fun lv st hh r h => by
      obtain ⟨x0, e0, h1⟩ := n_lR_x h
      obtain ⟨s0, t0, rfl, h2⟩ := n_pI_x h1
      obtain ⟨s1, t1, rfl, h3⟩ := n_pR_x h2
      obtain ⟨rfl, h4⟩ := n_pE_x h3
      exact n_sub (n_qc e0 n_qe) (bX12_init_1148 x0 s0 s1 hh r h4)) n_ked) (by rfl) h
def fX12_init_1089 (x0 : Nat) (hh : nH) : Option (Unit × nH) :=
  n_chk (!decide ((420 : Int32) < 0) && Nat.ble ((420 : Int32).toNatClampNeg * 4) 536870912) <|
  let a1 : Nat := n_n hh.1 + 1
  let h2 : nH := n_alloc hh 14 (420 : Int32).toNatClampNeg
  n_chk (Nat.beq (n_kd h2.1 x0) 12) <|
  let h3 : nH := n_upR h2 x0 45 a1
  n_chk (!decide ((16 : Int32) < 0) && Nat.ble ((16 : Int32).toNatClampNeg * 4) 536870912) <|
  let a4 : Nat := n_n h3.1 + 1
  let h5 : nH := n_alloc h3 14 (16 : Int32).toNatClampNeg
  n_chk (Nat.beq (n_kd h5.1 x0) 12) <|
  let h6 : nH := n_upR h5 x0 47 a4
  n_chk (!decide ((16 : Int32) < 0) && Nat.ble ((16 : Int32).toNatClampNeg * 4) 536870912) <|
  let a7 : Nat := n_n h6.1 + 1
  let h8 : nH := n_alloc h6 14 (16 : Int32).toNatClampNeg
  n_chk (Nat.beq (n_kd h8.1 x0) 12) <|
  let h9 : nH := n_upR h8 x0 48 a7
  n_chk (!decide ((4 : Int32) < 0) && Nat.ble ((4 : Int32).toNatClampNeg * 4) 536870912) <|
  let a10 : Nat := n_n h9.1 + 1
  let h11 : nH := n_alloc h9 14 (4 : Int32).toNatClampNeg
  fX12_init_1118 x0 a10 x0 h11
set_option maxRecDepth 200000 in
theorem bX12_init_1089 {l : Launch} {w : nW} (x0 : Nat) (hh : nH) (r : Unit × nH) (h : fX12_init_1089 x0 hh = some r) : n_At l w 0 mX12_init 1089 [(0, .ref x0)] [] hh (dv_v r.1, r.2) :=
  n_segd (K := [(1118, fun lv st hh => n_lR lv 0 (fun x0 => n_pR st (fun s0 st => n_pR st (fun s1 st => n_pE st (fX12_init_1118 x0 s0 s1 hh)))))]) (fin := fun r => (dv_v r.1, r.2)) 18 (iX12_init) (n_kcd (fun lv st hh r h => by
      obtain ⟨x0, e0, h1⟩ := n_lR_x h
      obtain ⟨s0, t0, rfl, h2⟩ := n_pR_x h1
      obtain ⟨s1, t1, rfl, h3⟩ := n_pR_x h2
      obtain ⟨rfl, h4⟩ := n_pE_x h3
      exact n_sub (n_qc e0 n_qe) (bX12_init_1118 x0 s0 s1 hh r h4)) n_ked) (by rfl) h
def fX12_init_1057 (x0 : Nat) (s0 : Nat) (hh : nH) : Option (Unit × nH) :=
  n_chk (!decide ((128 : Int32) < 0) && Nat.ble ((128 : Int32).toNatClampNeg * 4) 536870912) <|
  let a1 : Nat := n_n hh.1 + 1
  let h2 : nH := n_alloc hh 14 (128 : Int32).toNatClampNeg
  n_chk (Nat.beq (n_kd h2.1 s0) 12) <|
  let h3 : nH := n_upR h2 s0 40 a1
  n_chk (!decide ((24 : Int32) < 0) && Nat.ble ((24 : Int32).toNatClampNeg * 4) 536870912) <|
  let a4 : Nat := n_n h3.1 + 1
  let h5 : nH := n_alloc h3 14 (24 : Int32).toNatClampNeg
  n_chk (Nat.beq (n_kd h5.1 x0) 12) <|
  let h6 : nH := n_upR h5 x0 42 a4
  n_chk (!decide ((12 : Int32) < 0) && Nat.ble ((12 : Int32).toNatClampNeg * 4) 536870912) <|
  let a7 : Nat := n_n h6.1 + 1
  let h8 : nH := n_alloc h6 14 (12 : Int32).toNatClampNeg
  n_chk (Nat.beq (n_kd h8.1 x0) 12) <|
  let h9 : nH := n_upR h8 x0 43 a7
  n_chk (!decide ((11 : Int32) < 0) && Nat.ble ((11 : Int32).toNatClampNeg * 4) 536870912) <|
  let a10 : Nat := n_n h9.1 + 1
  let h11 : nH := n_alloc h9 14 (11 : Int32).toNatClampNeg
  n_chk (Nat.beq (n_kd h11.1 x0) 12) <|
  let h12 : nH := n_upR h11 x0 44 a10
  fX12_init_1089 x0 h12
set_option maxRecDepth 200000 in
theorem bX12_init_1057 {l : Launch} {w : nW} (x0 : Nat) (s0 : Nat) (hh : nH) (r : Unit × nH) (h : fX12_init_1057 x0 s0 hh = some r) : n_At l w 0 mX12_init 1057 [(0, .ref x0)] [.ref s0] hh (dv_v r.1, r.2) :=
  n_segd (K := [(1089, fun lv st hh => n_lR lv 0 (fun x0 => n_pE st (fX12_init_1089 x0 hh)))]) (fin := fun r => (dv_v r.1, r.2)) 18 (iX12_init) (n_kcd (fun lv st hh r h => by
      obtain ⟨x0, e0, h1⟩ := n_lR_x h
      obtain ⟨rfl, h2⟩ := n_pE_x h1
      exact n_sub (n_qc e0 n_qe) (bX12_init_1089 x0 hh r h2)) n_ked) (by rfl) h
def fX12_init_1026 (x0 : Nat) (s0 : Nat) (hh : nH) : Option (Unit × nH) :=
  n_chk (!decide ((1200 : Int32) < 0) && Nat.ble ((1200 : Int32).toNatClampNeg * 4) 536870912) <|
  let a1 : Nat := n_n hh.1 + 1
  let h2 : nH := n_alloc hh 14 (1200 : Int32).toNatClampNeg
  n_chk (Nat.beq (n_kd h2.1 s0) 12) <|
  let h3 : nH := n_upR h2 s0 27 a1
  n_chk (!decide ((40 : Int32) < 0) && Nat.ble ((40 : Int32).toNatClampNeg * 4) 536870912) <|
  let a4 : Nat := n_n h3.1 + 1
  let h5 : nH := n_alloc h3 14 (40 : Int32).toNatClampNeg
  n_chk (Nat.beq (n_kd h5.1 x0) 12) <|
  let h6 : nH := n_upR h5 x0 31 a4
  n_chk (Nat.beq (n_kd h6.1 x0) 12) <|
  let h7 : nH := (h6.1, n_up h6.2 x0 36 (-1 : Int32))
  n_chk (!decide ((128 : Int32) < 0) && Nat.ble ((128 : Int32).toNatClampNeg * 4) 536870912) <|
  let a8 : Nat := n_n h7.1 + 1
  let h9 : nH := n_alloc h7 14 (128 : Int32).toNatClampNeg
  n_chk (Nat.beq (n_kd h9.1 x0) 12) <|
  let h10 : nH := n_upR h9 x0 38 a8
  fX12_init_1057 x0 x0 h10
set_option maxRecDepth 200000 in
theorem bX12_init_1026 {l : Launch} {w : nW} (x0 : Nat) (s0 : Nat) (hh : nH) (r : Unit × nH) (h : fX12_init_1026 x0 s0 hh = some r) : n_At l w 0 mX12_init 1026 [(0, .ref x0)] [.ref s0] hh (dv_v r.1, r.2) :=
  n_segd (K := [(1057, fun lv st hh => n_lR lv 0 (fun x0 => n_pR st (fun s0 st => n_pE st (fX12_init_1057 x0 s0 hh))))]) (fin := fun r => (dv_v r.1, r.2)) 18 (iX12_init) (n_kcd (fun lv st hh r h => by
      obtain ⟨x0, e0, h1⟩ := n_lR_x h
      obtain ⟨s0, t0, rfl, h2⟩ := n_pR_x h1
      obtain ⟨rfl, h3⟩ := n_pE_x h2
      exact n_sub (n_qc e0 n_qe) (bX12_init_1057 x0 s0 hh r h3)) n_ked) (by rfl) h
def fX12_init_995 (x0 : Nat) (s0 : Int32) (s1 : Nat) (hh : nH) : Option (Unit × nH) :=
  n_chk (!decide (s0 < 0) && Nat.ble (s0.toNatClampNeg * 4) 536870912) <|
  let a1 : Nat := n_n hh.1 + 1
  let h2 : nH := n_alloc hh 14 s0.toNatClampNeg
  n_chk (Nat.beq (n_kd h2.1 s1) 12) <|
  let h3 : nH := n_upR h2 s1 23 a1
  n_chk (!decide ((48 : Int32) < 0) && Nat.ble ((48 : Int32).toNatClampNeg * 4) 536870912) <|
  let a4 : Nat := n_n h3.1 + 1
  let h5 : nH := n_alloc h3 14 (48 : Int32).toNatClampNeg
  n_chk (Nat.beq (n_kd h5.1 x0) 12) <|
  let h6 : nH := n_upR h5 x0 24 a4
  n_chk (!decide ((48 : Int32) < 0) && Nat.ble ((48 : Int32).toNatClampNeg * 4) 536870912) <|
  let a7 : Nat := n_n h6.1 + 1
  let h8 : nH := n_alloc h6 14 (48 : Int32).toNatClampNeg
  n_chk (Nat.beq (n_kd h8.1 x0) 12) <|
  let h9 : nH := n_upR h8 x0 25 a7
  n_chk (!decide ((1200 : Int32) < 0) && Nat.ble ((1200 : Int32).toNatClampNeg * 4) 536870912) <|
  let a10 : Nat := n_n h9.1 + 1
  let h11 : nH := n_alloc h9 14 (1200 : Int32).toNatClampNeg
  n_chk (Nat.beq (n_kd h11.1 x0) 12) <|
  let h12 : nH := n_upR h11 x0 26 a10
  fX12_init_1026 x0 x0 h12
set_option maxRecDepth 200000 in
theorem bX12_init_995 {l : Launch} {w : nW} (x0 : Nat) (s0 : Int32) (s1 : Nat) (hh : nH) (r : Unit × nH) (h : fX12_init_995 x0 s0 s1 hh = some r) : n_At l w 0 mX12_init 995 [(0, .ref x0)] [.int s0, .ref s1] hh (dv_v r.1, r.2) :=
  n_segd (K := [(1026, fun lv st hh => n_lR lv 0 (fun x0 => n_pR st (fun s0 st => n_pE st (fX12_init_1026 x0 s0 hh))))]) (fin := fun r => (dv_v r.1, r.2)) 18 (iX12_init) (n_kcd (fun lv st hh r h => by
      obtain ⟨x0, e0, h1⟩ := n_lR_x h
      obtain ⟨s0, t0, rfl, h2⟩ := n_pR_x h1
      obtain ⟨rfl, h3⟩ := n_pE_x h2
      exact n_sub (n_qc e0 n_qe) (bX12_init_1026 x0 s0 hh r h3)) n_ked) (by rfl) h
def fX12_init_967 (x0 : Nat) (s0 : Nat) (s1 : Nat) (hh : nH) : Option (Unit × nH) :=
  n_chk (n_in hh.1 14 s0 (144 : Int32)) <|
  let h1 : nH := (hh.1, n_up hh.2 s0 (144 : Int32).toNatClampNeg (32 : Int32))
  n_chk (Nat.beq (n_kd h1.1 s1) 12) <|
  let h2 : nH := n_upR h1 s1 20 s0
  n_chk (!decide ((2 : Int32) < 0) && Nat.ble ((2 : Int32).toNatClampNeg * 4) 536870912) <|
  let a3 : Nat := n_n h2.1 + 1
  let h4 : nH := n_alloc h2 14 (2 : Int32).toNatClampNeg
  n_chk (Nat.beq (n_kd h4.1 x0) 12) <|
  let h5 : nH := n_upR h4 x0 21 a3
  n_chk (!decide ((48 : Int32) < 0) && Nat.ble ((48 : Int32).toNatClampNeg * 4) 536870912) <|
  let a6 : Nat := n_n h5.1 + 1
  let h7 : nH := n_alloc h5 14 (48 : Int32).toNatClampNeg
  n_chk (Nat.beq (n_kd h7.1 x0) 12) <|
  let h8 : nH := n_upR h7 x0 22 a6
  fX12_init_995 x0 (48 : Int32) x0 h8
set_option maxRecDepth 200000 in
theorem bX12_init_967 {l : Launch} {w : nW} (x0 : Nat) (s0 : Nat) (s1 : Nat) (hh : nH) (r : Unit × nH) (h : fX12_init_967 x0 s0 s1 hh = some r) : n_At l w 0 mX12_init 967 [(0, .ref x0)] [.ref s0, .ref s1] hh (dv_v r.1, r.2) :=
  n_segd (K := [(995, fun lv st hh => n_lR lv 0 (fun x0 => n_pI st (fun s0 st => n_pR st (fun s1 st => n_pE st (fX12_init_995 x0 s0 s1 hh)))))]) (fin := fun r => (dv_v r.1, r.2)) 18 (iX12_init) (n_kcd (fun lv st hh r h => by
      obtain ⟨x0, e0, h1⟩ := n_lR_x h
      obtain ⟨s0, t0, rfl, h2⟩ := n_pI_x h1
      obtain ⟨s1, t1, rfl, h3⟩ := n_pR_x h2
      obtain ⟨rfl, h4⟩ := n_pE_x h3
      exact n_sub (n_qc e0 n_qe) (bX12_init_995 x0 s0 s1 hh r h4)) n_ked) (by rfl) h
def fX12_init_939 (x0 : Nat) (s0 : Nat) (s1 : Nat) (hh : nH) : Option (Unit × nH) :=
  n_chk (n_in hh.1 14 s0 (140 : Int32)) <|
  let h1 : nH := (hh.1, n_up hh.2 s0 (140 : Int32).toNatClampNeg (100 : Int32))
  n_chk (n_in h1.1 14 s0 (141 : Int32)) <|
  let h2 : nH := (h1.1, n_up h1.2 s0 (141 : Int32).toNatClampNeg (32 : Int32))
  n_chk (n_in h2.1 14 s0 (142 : Int32)) <|
  let h3 : nH := (h2.1, n_up h2.2 s0 (142 : Int32).toNatClampNeg (111 : Int32))
  n_chk (n_in h3.1 14 s0 (143 : Int32)) <|
  let h4 : nH := (h3.1, n_up h3.2 s0 (143 : Int32).toNatClampNeg (102 : Int32))
  fX12_init_967 x0 s0 s1 h4
set_option maxRecDepth 200000 in
theorem bX12_init_939 {l : Launch} {w : nW} (x0 : Nat) (s0 : Nat) (s1 : Nat) (hh : nH) (r : Unit × nH) (h : fX12_init_939 x0 s0 s1 hh = some r) : n_At l w 0 mX12_init 939 [(0, .ref x0)] [.ref s0, .ref s1] hh (dv_v r.1, r.2) :=
  n_segd (K := [(967, fun lv st hh => n_lR lv 0 (fun x0 => n_pR st (fun s0 st => n_pR st (fun s1 st => n_pE st (fX12_init_967 x0 s0 s1 hh)))))]) (fin := fun r => (dv_v r.1, r.2)) 19 (iX12_init) (n_kcd (fun lv st hh r h => by
      obtain ⟨x0, e0, h1⟩ := n_lR_x h
      obtain ⟨s0, t0, rfl, h2⟩ := n_pR_x h1
      obtain ⟨s1, t1, rfl, h3⟩ := n_pR_x h2
      obtain ⟨rfl, h4⟩ := n_pE_x h3
      exact n_sub (n_qc e0 n_qe) (bX12_init_967 x0 s0 s1 hh r h4)) n_ked) (by rfl) h
def fX12_init_911 (x0 : Nat) (s0 : Nat) (s1 : Nat) (hh : nH) : Option (Unit × nH) :=
  n_chk (n_in hh.1 14 s0 (136 : Int32)) <|
  let h1 : nH := (hh.1, n_up hh.2 s0 (136 : Int32).toNatClampNeg (99 : Int32))
  n_chk (n_in h1.1 14 s0 (137 : Int32)) <|
  let h2 : nH := (h1.1, n_up h1.2 s0 (137 : Int32).toNatClampNeg (104 : Int32))
  n_chk (n_in h2.1 14 s0 (138 : Int32)) <|
  let h3 : nH := (h2.1, n_up h2.2 s0 (138 : Int32).toNatClampNeg (105 : Int32))
  n_chk (n_in h3.1 14 s0 (139 : Int32)) <|
  let h4 : nH := (h3.1, n_up h3.2 s0 (139 : Int32).toNatClampNeg (108 : Int32))
  fX12_init_939 x0 s0 s1 h4
set_option maxRecDepth 200000 in
theorem bX12_init_911 {l : Launch} {w : nW} (x0 : Nat) (s0 : Nat) (s1 : Nat) (hh : nH) (r : Unit × nH) (h : fX12_init_911 x0 s0 s1 hh = some r) : n_At l w 0 mX12_init 911 [(0, .ref x0)] [.ref s0, .ref s1] hh (dv_v r.1, r.2) :=
  n_segd (K := [(939, fun lv st hh => n_lR lv 0 (fun x0 => n_pR st (fun s0 st => n_pR st (fun s1 st => n_pE st (fX12_init_939 x0 s0 s1 hh)))))]) (fin := fun r => (dv_v r.1, r.2)) 19 (iX12_init) (n_kcd (fun lv st hh r h => by
      obtain ⟨x0, e0, h1⟩ := n_lR_x h
      obtain ⟨s0, t0, rfl, h2⟩ := n_pR_x h1
      obtain ⟨s1, t1, rfl, h3⟩ := n_pR_x h2
      obtain ⟨rfl, h4⟩ := n_pE_x h3
      exact n_sub (n_qc e0 n_qe) (bX12_init_939 x0 s0 s1 hh r h4)) n_ked) (by rfl) h
def fX12_init_883 (x0 : Nat) (s0 : Nat) (s1 : Nat) (hh : nH) : Option (Unit × nH) :=
  n_chk (n_in hh.1 14 s0 (132 : Int32)) <|
  let h1 : nH := (hh.1, n_up hh.2 s0 (132 : Int32).toNatClampNeg (114 : Int32))
  n_chk (n_in h1.1 14 s0 (133 : Int32)) <|
  let h2 : nH := (h1.1, n_up h1.2 s0 (133 : Int32).toNatClampNeg (99 : Int32))
  n_chk (n_in h2.1 14 s0 (134 : Int32)) <|
  let h3 : nH := (h2.1, n_up h2.2 s0 (134 : Int32).toNatClampNeg (104 : Int32))
  n_chk (n_in h3.1 14 s0 (135 : Int32)) <|
  let h4 : nH := (h3.1, n_up h3.2 s0 (135 : Int32).toNatClampNeg (32 : Int32))
  fX12_init_911 x0 s0 s1 h4
set_option maxRecDepth 200000 in
theorem bX12_init_883 {l : Launch} {w : nW} (x0 : Nat) (s0 : Nat) (s1 : Nat) (hh : nH) (r : Unit × nH) (h : fX12_init_883 x0 s0 s1 hh = some r) : n_At l w 0 mX12_init 883 [(0, .ref x0)] [.ref s0, .ref s1] hh (dv_v r.1, r.2) :=
  n_segd (K := [(911, fun lv st hh => n_lR lv 0 (fun x0 => n_pR st (fun s0 st => n_pR st (fun s1 st => n_pE st (fX12_init_911 x0 s0 s1 hh)))))]) (fin := fun r => (dv_v r.1, r.2)) 19 (iX12_init) (n_kcd (fun lv st hh r h => by
      obtain ⟨x0, e0, h1⟩ := n_lR_x h
      obtain ⟨s0, t0, rfl, h2⟩ := n_pR_x h1
      obtain ⟨s1, t1, rfl, h3⟩ := n_pR_x h2
      obtain ⟨rfl, h4⟩ := n_pE_x h3
      exact n_sub (n_qc e0 n_qe) (bX12_init_911 x0 s0 s1 hh r h4)) n_ked) (by rfl) h
def fX12_init_855 (x0 : Nat) (s0 : Nat) (s1 : Nat) (hh : nH) : Option (Unit × nH) :=
  n_chk (n_in hh.1 14 s0 (128 : Int32)) <|
  let h1 : nH := (hh.1, n_up hh.2 s0 (128 : Int32).toNatClampNeg (32 : Int32))
  n_chk (n_in h1.1 14 s0 (129 : Int32)) <|
  let h2 : nH := (h1.1, n_up h1.2 s0 (129 : Int32).toNatClampNeg (115 : Int32))
  n_chk (n_in h2.1 14 s0 (130 : Int32)) <|
  let h3 : nH := (h2.1, n_up h2.2 s0 (130 : Int32).toNatClampNeg (101 : Int32))
  n_chk (n_in h3.1 14 s0 (131 : Int32)) <|
  let h4 : nH := (h3.1, n_up h3.2 s0 (131 : Int32).toNatClampNeg (97 : Int32))
  fX12_init_883 x0 s0 s1 h4
set_option maxRecDepth 200000 in
theorem bX12_init_855 {l : Launch} {w : nW} (x0 : Nat) (s0 : Nat) (s1 : Nat) (hh : nH) (r : Unit × nH) (h : fX12_init_855 x0 s0 s1 hh = some r) : n_At l w 0 mX12_init 855 [(0, .ref x0)] [.ref s0, .ref s1] hh (dv_v r.1, r.2) :=
  n_segd (K := [(883, fun lv st hh => n_lR lv 0 (fun x0 => n_pR st (fun s0 st => n_pR st (fun s1 st => n_pE st (fX12_init_883 x0 s0 s1 hh)))))]) (fin := fun r => (dv_v r.1, r.2)) 19 (iX12_init) (n_kcd (fun lv st hh r h => by
      obtain ⟨x0, e0, h1⟩ := n_lR_x h
      obtain ⟨s0, t0, rfl, h2⟩ := n_pR_x h1
      obtain ⟨s1, t1, rfl, h3⟩ := n_pR_x h2
      obtain ⟨rfl, h4⟩ := n_pE_x h3
      exact n_sub (n_qc e0 n_qe) (bX12_init_883 x0 s0 s1 hh r h4)) n_ked) (by rfl) h
def fX12_init_831 (x0 : Nat) (s0 : Nat) (s1 : Nat) (hh : nH) : Option (Unit × nH) :=
  n_chk (n_in hh.1 14 s0 (124 : Int32)) <|
  let h1 : nH := (hh.1, n_up hh.2 s0 (124 : Int32).toNatClampNeg (111 : Int32))
  n_chk (n_in h1.1 14 s0 (125 : Int32)) <|
  let h2 : nH := (h1.1, n_up h1.2 s0 (125 : Int32).toNatClampNeg (112 : Int32))
  n_chk (n_in h2.1 14 s0 (126 : Int32)) <|
  let h3 : nH := (h2.1, n_up h2.2 s0 (126 : Int32).toNatClampNeg (101 : Int32))
  n_chk (n_in h3.1 14 s0 (127 : Int32)) <|
  let h4 : nH := (h3.1, n_up h3.2 s0 (127 : Int32).toNatClampNeg (110 : Int32))
  fX12_init_855 x0 s0 s1 h4
set_option maxRecDepth 200000 in
theorem bX12_init_831 {l : Launch} {w : nW} (x0 : Nat) (s0 : Nat) (s1 : Nat) (hh : nH) (r : Unit × nH) (h : fX12_init_831 x0 s0 s1 hh = some r) : n_At l w 0 mX12_init 831 [(0, .ref x0)] [.ref s0, .ref s1] hh (dv_v r.1, r.2) :=
  n_segd (K := [(855, fun lv st hh => n_lR lv 0 (fun x0 => n_pR st (fun s0 st => n_pR st (fun s1 st => n_pE st (fX12_init_855 x0 s0 s1 hh)))))]) (fin := fun r => (dv_v r.1, r.2)) 19 (iX12_init) (n_kcd (fun lv st hh r h => by
      obtain ⟨x0, e0, h1⟩ := n_lR_x h
      obtain ⟨s0, t0, rfl, h2⟩ := n_pR_x h1
      obtain ⟨s1, t1, rfl, h3⟩ := n_pR_x h2
      obtain ⟨rfl, h4⟩ := n_pE_x h3
      exact n_sub (n_qc e0 n_qe) (bX12_init_855 x0 s0 s1 hh r h4)) n_ked) (by rfl) h
def fX12_init_807 (x0 : Nat) (s0 : Nat) (s1 : Nat) (hh : nH) : Option (Unit × nH) :=
  n_chk (n_in hh.1 14 s0 (120 : Int32)) <|
  let h1 : nH := (hh.1, n_up hh.2 s0 (120 : Int32).toNatClampNeg (111 : Int32))
  n_chk (n_in h1.1 14 s0 (121 : Int32)) <|
  let h2 : nH := (h1.1, n_up h1.2 s0 (121 : Int32).toNatClampNeg (115 : Int32))
  n_chk (n_in h2.1 14 s0 (122 : Int32)) <|
  let h3 : nH := (h2.1, n_up h2.2 s0 (122 : Int32).toNatClampNeg (101 : Int32))
  n_chk (n_in h3.1 14 s0 (123 : Int32)) <|
  let h4 : nH := (h3.1, n_up h3.2 s0 (123 : Int32).toNatClampNeg (32 : Int32))
  fX12_init_831 x0 s0 s1 h4
set_option maxRecDepth 200000 in
theorem bX12_init_807 {l : Launch} {w : nW} (x0 : Nat) (s0 : Nat) (s1 : Nat) (hh : nH) (r : Unit × nH) (h : fX12_init_807 x0 s0 s1 hh = some r) : n_At l w 0 mX12_init 807 [(0, .ref x0)] [.ref s0, .ref s1] hh (dv_v r.1, r.2) :=
  n_segd (K := [(831, fun lv st hh => n_lR lv 0 (fun x0 => n_pR st (fun s0 st => n_pR st (fun s1 st => n_pE st (fX12_init_831 x0 s0 s1 hh)))))]) (fin := fun r => (dv_v r.1, r.2)) 19 (iX12_init) (n_kcd (fun lv st hh r h => by
      obtain ⟨x0, e0, h1⟩ := n_lR_x h
      obtain ⟨s0, t0, rfl, h2⟩ := n_pR_x h1
      obtain ⟨s1, t1, rfl, h3⟩ := n_pR_x h2
      obtain ⟨rfl, h4⟩ := n_pE_x h3
      exact n_sub (n_qc e0 n_qe) (bX12_init_831 x0 s0 s1 hh r h4)) n_ked) (by rfl) h
def fX12_init_783 (x0 : Nat) (s0 : Nat) (s1 : Nat) (hh : nH) : Option (Unit × nH) :=
  n_chk (n_in hh.1 14 s0 (116 : Int32)) <|
  let h1 : nH := (hh.1, n_up hh.2 s0 (116 : Int32).toNatClampNeg (101 : Int32))
  n_chk (n_in h1.1 14 s0 (117 : Int32)) <|
  let h2 : nH := (h1.1, n_up h1.2 s0 (117 : Int32).toNatClampNeg (32 : Int32))
  n_chk (n_in h2.1 14 s0 (118 : Int32)) <|
  let h3 : nH := (h2.1, n_up h2.2 s0 (118 : Int32).toNatClampNeg (108 : Int32))
  n_chk (n_in h3.1 14 s0 (119 : Int32)) <|
  let h4 : nH := (h3.1, n_up h3.2 s0 (119 : Int32).toNatClampNeg (111 : Int32))
  fX12_init_807 x0 s0 s1 h4
set_option maxRecDepth 200000 in
theorem bX12_init_783 {l : Launch} {w : nW} (x0 : Nat) (s0 : Nat) (s1 : Nat) (hh : nH) (r : Unit × nH) (h : fX12_init_783 x0 s0 s1 hh = some r) : n_At l w 0 mX12_init 783 [(0, .ref x0)] [.ref s0, .ref s1] hh (dv_v r.1, r.2) :=
  n_segd (K := [(807, fun lv st hh => n_lR lv 0 (fun x0 => n_pR st (fun s0 st => n_pR st (fun s1 st => n_pE st (fX12_init_807 x0 s0 s1 hh)))))]) (fin := fun r => (dv_v r.1, r.2)) 19 (iX12_init) (n_kcd (fun lv st hh r h => by
      obtain ⟨x0, e0, h1⟩ := n_lR_x h
      obtain ⟨s0, t0, rfl, h2⟩ := n_pR_x h1
      obtain ⟨s1, t1, rfl, h3⟩ := n_pR_x h2
      obtain ⟨rfl, h4⟩ := n_pE_x h3
      exact n_sub (n_qc e0 n_qe) (bX12_init_807 x0 s0 s1 hh r h4)) n_ked) (by rfl) h
def fX12_init_759 (x0 : Nat) (s0 : Nat) (s1 : Nat) (hh : nH) : Option (Unit × nH) :=
  n_chk (n_in hh.1 14 s0 (112 : Int32)) <|
  let h1 : nH := (hh.1, n_up hh.2 s0 (112 : Int32).toNatClampNeg (110 : Int32))
  n_chk (n_in h1.1 14 s0 (113 : Int32)) <|
  let h2 : nH := (h1.1, n_up h1.2 s0 (113 : Int32).toNatClampNeg (32 : Int32))
  n_chk (n_in h2.1 14 s0 (114 : Int32)) <|
  let h3 : nH := (h2.1, n_up h2.2 s0 (114 : Int32).toNatClampNeg (116 : Int32))
  n_chk (n_in h3.1 14 s0 (115 : Int32)) <|
  let h4 : nH := (h3.1, n_up h3.2 s0 (115 : Int32).toNatClampNeg (105 : Int32))
  fX12_init_783 x0 s0 s1 h4
set_option maxRecDepth 200000 in
theorem bX12_init_759 {l : Launch} {w : nW} (x0 : Nat) (s0 : Nat) (s1 : Nat) (hh : nH) (r : Unit × nH) (h : fX12_init_759 x0 s0 s1 hh = some r) : n_At l w 0 mX12_init 759 [(0, .ref x0)] [.ref s0, .ref s1] hh (dv_v r.1, r.2) :=
  n_segd (K := [(783, fun lv st hh => n_lR lv 0 (fun x0 => n_pR st (fun s0 st => n_pR st (fun s1 st => n_pE st (fX12_init_783 x0 s0 s1 hh)))))]) (fin := fun r => (dv_v r.1, r.2)) 19 (iX12_init) (n_kcd (fun lv st hh r h => by
      obtain ⟨x0, e0, h1⟩ := n_lR_x h
      obtain ⟨s0, t0, rfl, h2⟩ := n_pR_x h1
      obtain ⟨s1, t1, rfl, h3⟩ := n_pR_x h2
      obtain ⟨rfl, h4⟩ := n_pE_x h3
      exact n_sub (n_qc e0 n_qe) (bX12_init_783 x0 s0 s1 hh r h4)) n_ked) (by rfl) h
def fX12_init_735 (x0 : Nat) (s0 : Nat) (s1 : Nat) (hh : nH) : Option (Unit × nH) :=
  n_chk (n_in hh.1 14 s0 (108 : Int32)) <|
  let h1 : nH := (hh.1, n_up hh.2 s0 (108 : Int32).toNatClampNeg (116 : Int32))
  n_chk (n_in h1.1 14 s0 (109 : Int32)) <|
  let h2 : nH := (h1.1, n_up h1.2 s0 (109 : Int32).toNatClampNeg (115 : Int32))
  n_chk (n_in h2.1 14 s0 (110 : Int32)) <|
  let h3 : nH := (h2.1, n_up h2.2 s0 (110 : Int32).toNatClampNeg (32 : Int32))
  n_chk (n_in h3.1 14 s0 (111 : Int32)) <|
  let h4 : nH := (h3.1, n_up h3.2 s0 (111 : Int32).toNatClampNeg (105 : Int32))
  fX12_init_759 x0 s0 s1 h4
set_option maxRecDepth 200000 in
theorem bX12_init_735 {l : Launch} {w : nW} (x0 : Nat) (s0 : Nat) (s1 : Nat) (hh : nH) (r : Unit × nH) (h : fX12_init_735 x0 s0 s1 hh = some r) : n_At l w 0 mX12_init 735 [(0, .ref x0)] [.ref s0, .ref s1] hh (dv_v r.1, r.2) :=
  n_segd (K := [(759, fun lv st hh => n_lR lv 0 (fun x0 => n_pR st (fun s0 st => n_pR st (fun s1 st => n_pE st (fX12_init_759 x0 s0 s1 hh)))))]) (fin := fun r => (dv_v r.1, r.2)) 19 (iX12_init) (n_kcd (fun lv st hh r h => by
      obtain ⟨x0, e0, h1⟩ := n_lR_x h
      obtain ⟨s0, t0, rfl, h2⟩ := n_pR_x h1
      obtain ⟨s1, t1, rfl, h3⟩ := n_pR_x h2
      obtain ⟨rfl, h4⟩ := n_pE_x h3
      exact n_sub (n_qc e0 n_qe) (bX12_init_759 x0 s0 s1 hh r h4)) n_ked) (by rfl) h
def fX12_init_711 (x0 : Nat) (s0 : Nat) (s1 : Nat) (hh : nH) : Option (Unit × nH) :=
  n_chk (n_in hh.1 14 s0 (104 : Int32)) <|
  let h1 : nH := (hh.1, n_up hh.2 s0 (104 : Int32).toNatClampNeg (110 : Int32))
  n_chk (n_in h1.1 14 s0 (105 : Int32)) <|
  let h2 : nH := (h1.1, n_up h1.2 s0 (105 : Int32).toNatClampNeg (32 : Int32))
  n_chk (n_in h2.1 14 s0 (106 : Int32)) <|
  let h3 : nH := (h2.1, n_up h2.2 s0 (106 : Int32).toNatClampNeg (112 : Int32))
  n_chk (n_in h3.1 14 s0 (107 : Int32)) <|
  let h4 : nH := (h3.1, n_up h3.2 s0 (107 : Int32).toNatClampNeg (117 : Int32))
  fX12_init_735 x0 s0 s1 h4
set_option maxRecDepth 200000 in
theorem bX12_init_711 {l : Launch} {w : nW} (x0 : Nat) (s0 : Nat) (s1 : Nat) (hh : nH) (r : Unit × nH) (h : fX12_init_711 x0 s0 s1 hh = some r) : n_At l w 0 mX12_init 711 [(0, .ref x0)] [.ref s0, .ref s1] hh (dv_v r.1, r.2) :=
  n_segd (K := [(735, fun lv st hh => n_lR lv 0 (fun x0 => n_pR st (fun s0 st => n_pR st (fun s1 st => n_pE st (fX12_init_735 x0 s0 s1 hh)))))]) (fin := fun r => (dv_v r.1, r.2)) 19 (iX12_init) (n_kcd (fun lv st hh r h => by
      obtain ⟨x0, e0, h1⟩ := n_lR_x h
      obtain ⟨s0, t0, rfl, h2⟩ := n_pR_x h1
      obtain ⟨s1, t1, rfl, h3⟩ := n_pR_x h2
      obtain ⟨rfl, h4⟩ := n_pE_x h3
      exact n_sub (n_qc e0 n_qe) (bX12_init_735 x0 s0 s1 hh r h4)) n_ked) (by rfl) h
def fX12_init_687 (x0 : Nat) (s0 : Nat) (s1 : Nat) (hh : nH) : Option (Unit × nH) :=
  n_chk (n_in hh.1 14 s0 (100 : Int32)) <|
  let h1 : nH := (hh.1, n_up hh.2 s0 (100 : Int32).toNatClampNeg (101 : Int32))
  n_chk (n_in h1.1 14 s0 (101 : Int32)) <|
  let h2 : nH := (h1.1, n_up h1.2 s0 (101 : Int32).toNatClampNeg (114 : Int32))
  n_chk (n_in h2.1 14 s0 (102 : Int32)) <|
  let h3 : nH := (h2.1, n_up h2.2 s0 (102 : Int32).toNatClampNeg (115 : Int32))
  n_chk (n_in h3.1 14 s0 (103 : Int32)) <|
  let h4 : nH := (h3.1, n_up h3.2 s0 (103 : Int32).toNatClampNeg (111 : Int32))
  fX12_init_711 x0 s0 s1 h4
set_option maxRecDepth 200000 in
theorem bX12_init_687 {l : Launch} {w : nW} (x0 : Nat) (s0 : Nat) (s1 : Nat) (hh : nH) (r : Unit × nH) (h : fX12_init_687 x0 s0 s1 hh = some r) : n_At l w 0 mX12_init 687 [(0, .ref x0)] [.ref s0, .ref s1] hh (dv_v r.1, r.2) :=
  n_segd (K := [(711, fun lv st hh => n_lR lv 0 (fun x0 => n_pR st (fun s0 st => n_pR st (fun s1 st => n_pE st (fX12_init_711 x0 s0 s1 hh)))))]) (fin := fun r => (dv_v r.1, r.2)) 19 (iX12_init) (n_kcd (fun lv st hh r h => by
      obtain ⟨x0, e0, h1⟩ := n_lR_x h
      obtain ⟨s0, t0, rfl, h2⟩ := n_pR_x h1
      obtain ⟨s1, t1, rfl, h3⟩ := n_pR_x h2
      obtain ⟨rfl, h4⟩ := n_pE_x h3
      exact n_sub (n_qc e0 n_qe) (bX12_init_711 x0 s0 s1 hh r h4)) n_ked) (by rfl) h
def fX12_init_663 (x0 : Nat) (s0 : Nat) (s1 : Nat) (hh : nH) : Option (Unit × nH) :=
  n_chk (n_in hh.1 14 s0 (96 : Int32)) <|
  let h1 : nH := (hh.1, n_up hh.2 s0 (96 : Int32).toNatClampNeg (97 : Int32))
  n_chk (n_in h1.1 14 s0 (97 : Int32)) <|
  let h2 : nH := (h1.1, n_up h1.2 s0 (97 : Int32).toNatClampNeg (116 : Int32))
  n_chk (n_in h2.1 14 s0 (98 : Int32)) <|
  let h3 : nH := (h2.1, n_up h2.2 s0 (98 : Int32).toNatClampNeg (32 : Int32))
  n_chk (n_in h3.1 14 s0 (99 : Int32)) <|
  let h4 : nH := (h3.1, n_up h3.2 s0 (99 : Int32).toNatClampNeg (112 : Int32))
  fX12_init_687 x0 s0 s1 h4
set_option maxRecDepth 200000 in
theorem bX12_init_663 {l : Launch} {w : nW} (x0 : Nat) (s0 : Nat) (s1 : Nat) (hh : nH) (r : Unit × nH) (h : fX12_init_663 x0 s0 s1 hh = some r) : n_At l w 0 mX12_init 663 [(0, .ref x0)] [.ref s0, .ref s1] hh (dv_v r.1, r.2) :=
  n_segd (K := [(687, fun lv st hh => n_lR lv 0 (fun x0 => n_pR st (fun s0 st => n_pR st (fun s1 st => n_pE st (fX12_init_687 x0 s0 s1 hh)))))]) (fin := fun r => (dv_v r.1, r.2)) 19 (iX12_init) (n_kcd (fun lv st hh r h => by
      obtain ⟨x0, e0, h1⟩ := n_lR_x h
      obtain ⟨s0, t0, rfl, h2⟩ := n_pR_x h1
      obtain ⟨s1, t1, rfl, h3⟩ := n_pR_x h2
      obtain ⟨rfl, h4⟩ := n_pE_x h3
      exact n_sub (n_qc e0 n_qe) (bX12_init_687 x0 s0 s1 hh r h4)) n_ked) (by rfl) h
def fX12_init_639 (x0 : Nat) (s0 : Nat) (s1 : Nat) (hh : nH) : Option (Unit × nH) :=
  n_chk (n_in hh.1 14 s0 (92 : Int32)) <|
  let h1 : nH := (hh.1, n_up hh.2 s0 (92 : Int32).toNatClampNeg (111 : Int32))
  n_chk (n_in h1.1 14 s0 (93 : Int32)) <|
  let h2 : nH := (h1.1, n_up h1.2 s0 (93 : Int32).toNatClampNeg (117 : Int32))
  n_chk (n_in h2.1 14 s0 (94 : Int32)) <|
  let h3 : nH := (h2.1, n_up h2.2 s0 (94 : Int32).toNatClampNeg (114 : Int32))
  n_chk (n_in h3.1 14 s0 (95 : Int32)) <|
  let h4 : nH := (h3.1, n_up h3.2 s0 (95 : Int32).toNatClampNeg (32 : Int32))
  fX12_init_663 x0 s0 s1 h4
set_option maxRecDepth 200000 in
theorem bX12_init_639 {l : Launch} {w : nW} (x0 : Nat) (s0 : Nat) (s1 : Nat) (hh : nH) (r : Unit × nH) (h : fX12_init_639 x0 s0 s1 hh = some r) : n_At l w 0 mX12_init 639 [(0, .ref x0)] [.ref s0, .ref s1] hh (dv_v r.1, r.2) :=
  n_segd (K := [(663, fun lv st hh => n_lR lv 0 (fun x0 => n_pR st (fun s0 st => n_pR st (fun s1 st => n_pE st (fX12_init_663 x0 s0 s1 hh)))))]) (fin := fun r => (dv_v r.1, r.2)) 19 (iX12_init) (n_kcd (fun lv st hh r h => by
      obtain ⟨x0, e0, h1⟩ := n_lR_x h
      obtain ⟨s0, t0, rfl, h2⟩ := n_pR_x h1
      obtain ⟨s1, t1, rfl, h3⟩ := n_pR_x h2
      obtain ⟨rfl, h4⟩ := n_pE_x h3
      exact n_sub (n_qc e0 n_qe) (bX12_init_663 x0 s0 s1 hh r h4)) n_ked) (by rfl) h
def fX12_init_615 (x0 : Nat) (s0 : Nat) (s1 : Nat) (hh : nH) : Option (Unit × nH) :=
  n_chk (n_in hh.1 14 s0 (88 : Int32)) <|
  let h1 : nH := (hh.1, n_up hh.2 s0 (88 : Int32).toNatClampNeg (101 : Int32))
  n_chk (n_in h1.1 14 s0 (89 : Int32)) <|
  let h2 : nH := (h1.1, n_up h1.2 s0 (89 : Int32).toNatClampNeg (100 : Int32))
  n_chk (n_in h2.1 14 s0 (90 : Int32)) <|
  let h3 : nH := (h2.1, n_up h2.2 s0 (90 : Int32).toNatClampNeg (32 : Int32))
  n_chk (n_in h3.1 14 s0 (91 : Int32)) <|
  let h4 : nH := (h3.1, n_up h3.2 s0 (91 : Int32).toNatClampNeg (104 : Int32))
  fX12_init_639 x0 s0 s1 h4
set_option maxRecDepth 200000 in
theorem bX12_init_615 {l : Launch} {w : nW} (x0 : Nat) (s0 : Nat) (s1 : Nat) (hh : nH) (r : Unit × nH) (h : fX12_init_615 x0 s0 s1 hh = some r) : n_At l w 0 mX12_init 615 [(0, .ref x0)] [.ref s0, .ref s1] hh (dv_v r.1, r.2) :=
  n_segd (K := [(639, fun lv st hh => n_lR lv 0 (fun x0 => n_pR st (fun s0 st => n_pR st (fun s1 st => n_pE st (fX12_init_639 x0 s0 s1 hh)))))]) (fin := fun r => (dv_v r.1, r.2)) 19 (iX12_init) (n_kcd (fun lv st hh r h => by
      obtain ⟨x0, e0, h1⟩ := n_lR_x h
      obtain ⟨s0, t0, rfl, h2⟩ := n_pR_x h1
      obtain ⟨s1, t1, rfl, h3⟩ := n_pR_x h2
      obtain ⟨rfl, h4⟩ := n_pE_x h3
      exact n_sub (n_qc e0 n_qe) (bX12_init_639 x0 s0 s1 hh r h4)) n_ked) (by rfl) h
def fX12_init_591 (x0 : Nat) (s0 : Nat) (s1 : Nat) (hh : nH) : Option (Unit × nH) :=
  n_chk (n_in hh.1 14 s0 (84 : Int32)) <|
  let h1 : nH := (hh.1, n_up hh.2 s0 (84 : Int32).toNatClampNeg (112 : Int32))
  n_chk (n_in h1.1 14 s0 (85 : Int32)) <|
  let h2 : nH := (h1.1, n_up h1.2 s0 (85 : Int32).toNatClampNeg (97 : Int32))
  n_chk (n_in h2.1 14 s0 (86 : Int32)) <|
  let h3 : nH := (h2.1, n_up h2.2 s0 (86 : Int32).toNatClampNeg (108 : Int32))
  n_chk (n_in h3.1 14 s0 (87 : Int32)) <|
  let h4 : nH := (h3.1, n_up h3.2 s0 (87 : Int32).toNatClampNeg (109 : Int32))
  fX12_init_615 x0 s0 s1 h4
set_option maxRecDepth 200000 in
theorem bX12_init_591 {l : Launch} {w : nW} (x0 : Nat) (s0 : Nat) (s1 : Nat) (hh : nH) (r : Unit × nH) (h : fX12_init_591 x0 s0 s1 hh = some r) : n_At l w 0 mX12_init 591 [(0, .ref x0)] [.ref s0, .ref s1] hh (dv_v r.1, r.2) :=
  n_segd (K := [(615, fun lv st hh => n_lR lv 0 (fun x0 => n_pR st (fun s0 st => n_pR st (fun s1 st => n_pE st (fX12_init_615 x0 s0 s1 hh)))))]) (fin := fun r => (dv_v r.1, r.2)) 19 (iX12_init) (n_kcd (fun lv st hh r h => by
      obtain ⟨x0, e0, h1⟩ := n_lR_x h
      obtain ⟨s0, t0, rfl, h2⟩ := n_pR_x h1
      obtain ⟨s1, t1, rfl, h3⟩ := n_pR_x h2
      obtain ⟨rfl, h4⟩ := n_pE_x h3
      exact n_sub (n_qc e0 n_qe) (bX12_init_615 x0 s0 s1 hh r h4)) n_ked) (by rfl) h
def fX12_init_567 (x0 : Nat) (s0 : Nat) (s1 : Nat) (hh : nH) : Option (Unit × nH) :=
  n_chk (n_in hh.1 14 s0 (80 : Int32)) <|
  let h1 : nH := (hh.1, n_up hh.2 s0 (80 : Int32).toNatClampNeg (111 : Int32))
  n_chk (n_in h1.1 14 s0 (81 : Int32)) <|
  let h2 : nH := (h1.1, n_up h1.2 s0 (81 : Int32).toNatClampNeg (115 : Int32))
  n_chk (n_in h2.1 14 s0 (82 : Int32)) <|
  let h3 : nH := (h2.1, n_up h2.2 s0 (82 : Int32).toNatClampNeg (116 : Int32))
  n_chk (n_in h3.1 14 s0 (83 : Int32)) <|
  let h4 : nH := (h3.1, n_up h3.2 s0 (83 : Int32).toNatClampNeg (32 : Int32))
  fX12_init_591 x0 s0 s1 h4
set_option maxRecDepth 200000 in
theorem bX12_init_567 {l : Launch} {w : nW} (x0 : Nat) (s0 : Nat) (s1 : Nat) (hh : nH) (r : Unit × nH) (h : fX12_init_567 x0 s0 s1 hh = some r) : n_At l w 0 mX12_init 567 [(0, .ref x0)] [.ref s0, .ref s1] hh (dv_v r.1, r.2) :=
  n_segd (K := [(591, fun lv st hh => n_lR lv 0 (fun x0 => n_pR st (fun s0 st => n_pR st (fun s1 st => n_pE st (fX12_init_591 x0 s0 s1 hh)))))]) (fin := fun r => (dv_v r.1, r.2)) 19 (iX12_init) (n_kcd (fun lv st hh r h => by
      obtain ⟨x0, e0, h1⟩ := n_lR_x h
      obtain ⟨s0, t0, rfl, h2⟩ := n_pR_x h1
      obtain ⟨s1, t1, rfl, h3⟩ := n_pR_x h2
      obtain ⟨rfl, h4⟩ := n_pE_x h3
      exact n_sub (n_qc e0 n_qe) (bX12_init_591 x0 s0 s1 hh r h4)) n_ked) (by rfl) h
def fX12_init_543 (x0 : Nat) (s0 : Nat) (s1 : Nat) (hh : nH) : Option (Unit × nH) :=
  n_chk (n_in hh.1 14 s0 (76 : Int32)) <|
  let h1 : nH := (hh.1, n_up hh.2 s0 (76 : Int32).toNatClampNeg (101 : Int32))
  n_chk (n_in h1.1 14 s0 (77 : Int32)) <|
  let h2 : nH := (h1.1, n_up h1.2 s0 (77 : Int32).toNatClampNeg (100 : Int32))
  n_chk (n_in h2.1 14 s0 (78 : Int32)) <|
  let h3 : nH := (h2.1, n_up h2.2 s0 (78 : Int32).toNatClampNeg (32 : Int32))
  n_chk (n_in h3.1 14 s0 (79 : Int32)) <|
  let h4 : nH := (h3.1, n_up h3.2 s0 (79 : Int32).toNatClampNeg (108 : Int32))
  fX12_init_567 x0 s0 s1 h4
set_option maxRecDepth 200000 in
theorem bX12_init_543 {l : Launch} {w : nW} (x0 : Nat) (s0 : Nat) (s1 : Nat) (hh : nH) (r : Unit × nH) (h : fX12_init_543 x0 s0 s1 hh = some r) : n_At l w 0 mX12_init 543 [(0, .ref x0)] [.ref s0, .ref s1] hh (dv_v r.1, r.2) :=
  n_segd (K := [(567, fun lv st hh => n_lR lv 0 (fun x0 => n_pR st (fun s0 st => n_pR st (fun s1 st => n_pE st (fX12_init_567 x0 s0 s1 hh)))))]) (fin := fun r => (dv_v r.1, r.2)) 19 (iX12_init) (n_kcd (fun lv st hh r h => by
      obtain ⟨x0, e0, h1⟩ := n_lR_x h
      obtain ⟨s0, t0, rfl, h2⟩ := n_pR_x h1
      obtain ⟨s1, t1, rfl, h3⟩ := n_pR_x h2
      obtain ⟨rfl, h4⟩ := n_pE_x h3
      exact n_sub (n_qc e0 n_qe) (bX12_init_567 x0 s0 s1 hh r h4)) n_ked) (by rfl) h
def fX12_init_519 (x0 : Nat) (s0 : Nat) (s1 : Nat) (hh : nH) : Option (Unit × nH) :=
  n_chk (n_in hh.1 14 s0 (72 : Int32)) <|
  let h1 : nH := (hh.1, n_up hh.2 s0 (72 : Int32).toNatClampNeg (32 : Int32))
  n_chk (n_in h1.1 14 s0 (73 : Int32)) <|
  let h2 : nH := (h1.1, n_up h1.2 s0 (73 : Int32).toNatClampNeg (109 : Int32))
  n_chk (n_in h2.1 14 s0 (74 : Int32)) <|
  let h3 : nH := (h2.1, n_up h2.2 s0 (74 : Int32).toNatClampNeg (111 : Int32))
  n_chk (n_in h3.1 14 s0 (75 : Int32)) <|
  let h4 : nH := (h3.1, n_up h3.2 s0 (75 : Int32).toNatClampNeg (118 : Int32))
  fX12_init_543 x0 s0 s1 h4
set_option maxRecDepth 200000 in
theorem bX12_init_519 {l : Launch} {w : nW} (x0 : Nat) (s0 : Nat) (s1 : Nat) (hh : nH) (r : Unit × nH) (h : fX12_init_519 x0 s0 s1 hh = some r) : n_At l w 0 mX12_init 519 [(0, .ref x0)] [.ref s0, .ref s1] hh (dv_v r.1, r.2) :=
  n_segd (K := [(543, fun lv st hh => n_lR lv 0 (fun x0 => n_pR st (fun s0 st => n_pR st (fun s1 st => n_pE st (fX12_init_543 x0 s0 s1 hh)))))]) (fin := fun r => (dv_v r.1, r.2)) 19 (iX12_init) (n_kcd (fun lv st hh r h => by
      obtain ⟨x0, e0, h1⟩ := n_lR_x h
      obtain ⟨s0, t0, rfl, h2⟩ := n_pR_x h1
      obtain ⟨s1, t1, rfl, h3⟩ := n_pR_x h2
      obtain ⟨rfl, h4⟩ := n_pE_x h3
      exact n_sub (n_qc e0 n_qe) (bX12_init_543 x0 s0 s1 hh r h4)) n_ked) (by rfl) h
def fX12_init_495 (x0 : Nat) (s0 : Nat) (s1 : Nat) (hh : nH) : Option (Unit × nH) :=
  n_chk (n_in hh.1 14 s0 (68 : Int32)) <|
  let h1 : nH := (hh.1, n_up hh.2 s0 (68 : Int32).toNatClampNeg (108 : Int32))
  n_chk (n_in h1.1 14 s0 (69 : Int32)) <|
  let h2 : nH := (h1.1, n_up h1.2 s0 (69 : Int32).toNatClampNeg (111 : Int32))
  n_chk (n_in h2.1 14 s0 (70 : Int32)) <|
  let h3 : nH := (h2.1, n_up h2.2 s0 (70 : Int32).toNatClampNeg (99 : Int32))
  n_chk (n_in h3.1 14 s0 (71 : Int32)) <|
  let h4 : nH := (h3.1, n_up h3.2 s0 (71 : Int32).toNatClampNeg (107 : Int32))
  fX12_init_519 x0 s0 s1 h4
set_option maxRecDepth 200000 in
theorem bX12_init_495 {l : Launch} {w : nW} (x0 : Nat) (s0 : Nat) (s1 : Nat) (hh : nH) (r : Unit × nH) (h : fX12_init_495 x0 s0 s1 hh = some r) : n_At l w 0 mX12_init 495 [(0, .ref x0)] [.ref s0, .ref s1] hh (dv_v r.1, r.2) :=
  n_segd (K := [(519, fun lv st hh => n_lR lv 0 (fun x0 => n_pR st (fun s0 st => n_pR st (fun s1 st => n_pE st (fX12_init_519 x0 s0 s1 hh)))))]) (fin := fun r => (dv_v r.1, r.2)) 19 (iX12_init) (n_kcd (fun lv st hh r h => by
      obtain ⟨x0, e0, h1⟩ := n_lR_x h
      obtain ⟨s0, t0, rfl, h2⟩ := n_pR_x h1
      obtain ⟨s1, t1, rfl, h3⟩ := n_pR_x h2
      obtain ⟨rfl, h4⟩ := n_pE_x h3
      exact n_sub (n_qc e0 n_qe) (bX12_init_519 x0 s0 s1 hh r h4)) n_ked) (by rfl) h
def fX12_init_471 (x0 : Nat) (s0 : Nat) (s1 : Nat) (hh : nH) : Option (Unit × nH) :=
  n_chk (n_in hh.1 14 s0 (64 : Int32)) <|
  let h1 : nH := (hh.1, n_up hh.2 s0 (64 : Int32).toNatClampNeg (117 : Int32))
  n_chk (n_in h1.1 14 s0 (65 : Int32)) <|
  let h2 : nH := (h1.1, n_up h1.2 s0 (65 : Int32).toNatClampNeg (108 : Int32))
  n_chk (n_in h2.1 14 s0 (66 : Int32)) <|
  let h3 : nH := (h2.1, n_up h2.2 s0 (66 : Int32).toNatClampNeg (108 : Int32))
  n_chk (n_in h3.1 14 s0 (67 : Int32)) <|
  let h4 : nH := (h3.1, n_up h3.2 s0 (67 : Int32).toNatClampNeg (32 : Int32))
  fX12_init_495 x0 s0 s1 h4
set_option maxRecDepth 200000 in
theorem bX12_init_471 {l : Launch} {w : nW} (x0 : Nat) (s0 : Nat) (s1 : Nat) (hh : nH) (r : Unit × nH) (h : fX12_init_471 x0 s0 s1 hh = some r) : n_At l w 0 mX12_init 471 [(0, .ref x0)] [.ref s0, .ref s1] hh (dv_v r.1, r.2) :=
  n_segd (K := [(495, fun lv st hh => n_lR lv 0 (fun x0 => n_pR st (fun s0 st => n_pR st (fun s1 st => n_pE st (fX12_init_495 x0 s0 s1 hh)))))]) (fin := fun r => (dv_v r.1, r.2)) 19 (iX12_init) (n_kcd (fun lv st hh r h => by
      obtain ⟨x0, e0, h1⟩ := n_lR_x h
      obtain ⟨s0, t0, rfl, h2⟩ := n_pR_x h1
      obtain ⟨s1, t1, rfl, h3⟩ := n_pR_x h2
      obtain ⟨rfl, h4⟩ := n_pE_x h3
      exact n_sub (n_qc e0 n_qe) (bX12_init_495 x0 s0 s1 hh r h4)) n_ked) (by rfl) h
def fX12_init_447 (x0 : Nat) (s0 : Nat) (s1 : Nat) (hh : nH) : Option (Unit × nH) :=
  n_chk (n_in hh.1 14 s0 (60 : Int32)) <|
  let h1 : nH := (hh.1, n_up hh.2 s0 (60 : Int32).toNatClampNeg (99 : Int32))
  n_chk (n_in h1.1 14 s0 (61 : Int32)) <|
  let h2 : nH := (h1.1, n_up h1.2 s0 (61 : Int32).toNatClampNeg (101 : Int32))
  n_chk (n_in h2.1 14 s0 (62 : Int32)) <|
  let h3 : nH := (h2.1, n_up h2.2 s0 (62 : Int32).toNatClampNeg (32 : Int32))
  n_chk (n_in h3.1 14 s0 (63 : Int32)) <|
  let h4 : nH := (h3.1, n_up h3.2 s0 (63 : Int32).toNatClampNeg (102 : Int32))
  fX12_init_471 x0 s0 s1 h4
set_option maxRecDepth 200000 in
theorem bX12_init_447 {l : Launch} {w : nW} (x0 : Nat) (s0 : Nat) (s1 : Nat) (hh : nH) (r : Unit × nH) (h : fX12_init_447 x0 s0 s1 hh = some r) : n_At l w 0 mX12_init 447 [(0, .ref x0)] [.ref s0, .ref s1] hh (dv_v r.1, r.2) :=
  n_segd (K := [(471, fun lv st hh => n_lR lv 0 (fun x0 => n_pR st (fun s0 st => n_pR st (fun s1 st => n_pE st (fX12_init_471 x0 s0 s1 hh)))))]) (fin := fun r => (dv_v r.1, r.2)) 19 (iX12_init) (n_kcd (fun lv st hh r h => by
      obtain ⟨x0, e0, h1⟩ := n_lR_x h
      obtain ⟨s0, t0, rfl, h2⟩ := n_pR_x h1
      obtain ⟨s1, t1, rfl, h3⟩ := n_pR_x h2
      obtain ⟨rfl, h4⟩ := n_pE_x h3
      exact n_sub (n_qc e0 n_qe) (bX12_init_471 x0 s0 s1 hh r h4)) n_ked) (by rfl) h
def fX12_init_423 (x0 : Nat) (s0 : Nat) (s1 : Nat) (hh : nH) : Option (Unit × nH) :=
  n_chk (n_in hh.1 14 s0 (56 : Int32)) <|
  let h1 : nH := (hh.1, n_up hh.2 s0 (56 : Int32).toNatClampNeg (32 : Int32))
  n_chk (n_in h1.1 14 s0 (57 : Int32)) <|
  let h2 : nH := (h1.1, n_up h1.2 s0 (57 : Int32).toNatClampNeg (112 : Int32))
  n_chk (n_in h2.1 14 s0 (58 : Int32)) <|
  let h3 : nH := (h2.1, n_up h2.2 s0 (58 : Int32).toNatClampNeg (108 : Int32))
  n_chk (n_in h3.1 14 s0 (59 : Int32)) <|
  let h4 : nH := (h3.1, n_up h3.2 s0 (59 : Int32).toNatClampNeg (97 : Int32))
  fX12_init_447 x0 s0 s1 h4
set_option maxRecDepth 200000 in
theorem bX12_init_423 {l : Launch} {w : nW} (x0 : Nat) (s0 : Nat) (s1 : Nat) (hh : nH) (r : Unit × nH) (h : fX12_init_423 x0 s0 s1 hh = some r) : n_At l w 0 mX12_init 423 [(0, .ref x0)] [.ref s0, .ref s1] hh (dv_v r.1, r.2) :=
  n_segd (K := [(447, fun lv st hh => n_lR lv 0 (fun x0 => n_pR st (fun s0 st => n_pR st (fun s1 st => n_pE st (fX12_init_447 x0 s0 s1 hh)))))]) (fin := fun r => (dv_v r.1, r.2)) 19 (iX12_init) (n_kcd (fun lv st hh r h => by
      obtain ⟨x0, e0, h1⟩ := n_lR_x h
      obtain ⟨s0, t0, rfl, h2⟩ := n_pR_x h1
      obtain ⟨s1, t1, rfl, h3⟩ := n_pR_x h2
      obtain ⟨rfl, h4⟩ := n_pE_x h3
      exact n_sub (n_qc e0 n_qe) (bX12_init_447 x0 s0 s1 hh r h4)) n_ked) (by rfl) h
def fX12_init_399 (x0 : Nat) (s0 : Nat) (s1 : Nat) (hh : nH) : Option (Unit × nH) :=
  n_chk (n_in hh.1 14 s0 (52 : Int32)) <|
  let h1 : nH := (hh.1, n_up hh.2 s0 (52 : Int32).toNatClampNeg (111 : Int32))
  n_chk (n_in h1.1 14 s0 (53 : Int32)) <|
  let h2 : nH := (h1.1, n_up h1.2 s0 (53 : Int32).toNatClampNeg (114 : Int32))
  n_chk (n_in h2.1 14 s0 (54 : Int32)) <|
  let h3 : nH := (h2.1, n_up h2.2 s0 (54 : Int32).toNatClampNeg (116 : Int32))
  n_chk (n_in h3.1 14 s0 (55 : Int32)) <|
  let h4 : nH := (h3.1, n_up h3.2 s0 (55 : Int32).toNatClampNeg (104 : Int32))
  fX12_init_423 x0 s0 s1 h4
set_option maxRecDepth 200000 in
theorem bX12_init_399 {l : Launch} {w : nW} (x0 : Nat) (s0 : Nat) (s1 : Nat) (hh : nH) (r : Unit × nH) (h : fX12_init_399 x0 s0 s1 hh = some r) : n_At l w 0 mX12_init 399 [(0, .ref x0)] [.ref s0, .ref s1] hh (dv_v r.1, r.2) :=
  n_segd (K := [(423, fun lv st hh => n_lR lv 0 (fun x0 => n_pR st (fun s0 st => n_pR st (fun s1 st => n_pE st (fX12_init_423 x0 s0 s1 hh)))))]) (fin := fun r => (dv_v r.1, r.2)) 19 (iX12_init) (n_kcd (fun lv st hh r h => by
      obtain ⟨x0, e0, h1⟩ := n_lR_x h
      obtain ⟨s0, t0, rfl, h2⟩ := n_pR_x h1
      obtain ⟨s1, t1, rfl, h3⟩ := n_pR_x h2
      obtain ⟨rfl, h4⟩ := n_pE_x h3
      exact n_sub (n_qc e0 n_qe) (bX12_init_423 x0 s0 s1 hh r h4)) n_ked) (by rfl) h
def fX12_init_375 (x0 : Nat) (s0 : Nat) (s1 : Nat) (hh : nH) : Option (Unit × nH) :=
  n_chk (n_in hh.1 14 s0 (48 : Int32)) <|
  let h1 : nH := (hh.1, n_up hh.2 s0 (48 : Int32).toNatClampNeg (122 : Int32))
  n_chk (n_in h1.1 14 s0 (49 : Int32)) <|
  let h2 : nH := (h1.1, n_up h1.2 s0 (49 : Int32).toNatClampNeg (101 : Int32))
  n_chk (n_in h2.1 14 s0 (50 : Int32)) <|
  let h3 : nH := (h2.1, n_up h2.2 s0 (50 : Int32).toNatClampNeg (32 : Int32))
  n_chk (n_in h3.1 14 s0 (51 : Int32)) <|
  let h4 : nH := (h3.1, n_up h3.2 s0 (51 : Int32).toNatClampNeg (119 : Int32))
  fX12_init_399 x0 s0 s1 h4
set_option maxRecDepth 200000 in
theorem bX12_init_375 {l : Launch} {w : nW} (x0 : Nat) (s0 : Nat) (s1 : Nat) (hh : nH) (r : Unit × nH) (h : fX12_init_375 x0 s0 s1 hh = some r) : n_At l w 0 mX12_init 375 [(0, .ref x0)] [.ref s0, .ref s1] hh (dv_v r.1, r.2) :=
  n_segd (K := [(399, fun lv st hh => n_lR lv 0 (fun x0 => n_pR st (fun s0 st => n_pR st (fun s1 st => n_pE st (fX12_init_399 x0 s0 s1 hh)))))]) (fin := fun r => (dv_v r.1, r.2)) 19 (iX12_init) (n_kcd (fun lv st hh r h => by
      obtain ⟨x0, e0, h1⟩ := n_lR_x h
      obtain ⟨s0, t0, rfl, h2⟩ := n_pR_x h1
      obtain ⟨s1, t1, rfl, h3⟩ := n_pR_x h2
      obtain ⟨rfl, h4⟩ := n_pE_x h3
      exact n_sub (n_qc e0 n_qe) (bX12_init_399 x0 s0 s1 hh r h4)) n_ked) (by rfl) h
def fX12_init_351 (x0 : Nat) (s0 : Nat) (s1 : Nat) (hh : nH) : Option (Unit × nH) :=
  n_chk (n_in hh.1 14 s0 (44 : Int32)) <|
  let h1 : nH := (hh.1, n_up hh.2 s0 (44 : Int32).toNatClampNeg (115 : Int32))
  n_chk (n_in h1.1 14 s0 (45 : Int32)) <|
  let h2 : nH := (h1.1, n_up h1.2 s0 (45 : Int32).toNatClampNeg (32 : Int32))
  n_chk (n_in h2.1 14 s0 (46 : Int32)) <|
  let h3 : nH := (h2.1, n_up h2.2 s0 (46 : Int32).toNatClampNeg (115 : Int32))
  n_chk (n_in h3.1 14 s0 (47 : Int32)) <|
  let h4 : nH := (h3.1, n_up h3.2 s0 (47 : Int32).toNatClampNeg (105 : Int32))
  fX12_init_375 x0 s0 s1 h4
set_option maxRecDepth 200000 in
theorem bX12_init_351 {l : Launch} {w : nW} (x0 : Nat) (s0 : Nat) (s1 : Nat) (hh : nH) (r : Unit × nH) (h : fX12_init_351 x0 s0 s1 hh = some r) : n_At l w 0 mX12_init 351 [(0, .ref x0)] [.ref s0, .ref s1] hh (dv_v r.1, r.2) :=
  n_segd (K := [(375, fun lv st hh => n_lR lv 0 (fun x0 => n_pR st (fun s0 st => n_pR st (fun s1 st => n_pE st (fX12_init_375 x0 s0 s1 hh)))))]) (fin := fun r => (dv_v r.1, r.2)) 19 (iX12_init) (n_kcd (fun lv st hh r h => by
      obtain ⟨x0, e0, h1⟩ := n_lR_x h
      obtain ⟨s0, t0, rfl, h2⟩ := n_pR_x h1
      obtain ⟨s1, t1, rfl, h3⟩ := n_pR_x h2
      obtain ⟨rfl, h4⟩ := n_pE_x h3
      exact n_sub (n_qc e0 n_qe) (bX12_init_375 x0 s0 s1 hh r h4)) n_ked) (by rfl) h
def fX12_init_327 (x0 : Nat) (s0 : Nat) (s1 : Nat) (hh : nH) : Option (Unit × nH) :=
  n_chk (n_in hh.1 14 s0 (40 : Int32)) <|
  let h1 : nH := (hh.1, n_up hh.2 s0 (40 : Int32).toNatClampNeg (32 : Int32))
  n_chk (n_in h1.1 14 s0 (41 : Int32)) <|
  let h2 : nH := (h1.1, n_up h1.2 s0 (41 : Int32).toNatClampNeg (119 : Int32))
  n_chk (n_in h2.1 14 s0 (42 : Int32)) <|
  let h3 : nH := (h2.1, n_up h2.2 s0 (42 : Int32).toNatClampNeg (105 : Int32))
  n_chk (n_in h3.1 14 s0 (43 : Int32)) <|
  let h4 : nH := (h3.1, n_up h3.2 s0 (43 : Int32).toNatClampNeg (116 : Int32))
  fX12_init_351 x0 s0 s1 h4
set_option maxRecDepth 200000 in
theorem bX12_init_327 {l : Launch} {w : nW} (x0 : Nat) (s0 : Nat) (s1 : Nat) (hh : nH) (r : Unit × nH) (h : fX12_init_327 x0 s0 s1 hh = some r) : n_At l w 0 mX12_init 327 [(0, .ref x0)] [.ref s0, .ref s1] hh (dv_v r.1, r.2) :=
  n_segd (K := [(351, fun lv st hh => n_lR lv 0 (fun x0 => n_pR st (fun s0 st => n_pR st (fun s1 st => n_pE st (fX12_init_351 x0 s0 s1 hh)))))]) (fin := fun r => (dv_v r.1, r.2)) 19 (iX12_init) (n_kcd (fun lv st hh r h => by
      obtain ⟨x0, e0, h1⟩ := n_lR_x h
      obtain ⟨s0, t0, rfl, h2⟩ := n_pR_x h1
      obtain ⟨s1, t1, rfl, h3⟩ := n_pR_x h2
      obtain ⟨rfl, h4⟩ := n_pE_x h3
      exact n_sub (n_qc e0 n_qe) (bX12_init_351 x0 s0 s1 hh r h4)) n_ked) (by rfl) h
def fX12_init_303 (x0 : Nat) (s0 : Nat) (s1 : Nat) (hh : nH) : Option (Unit × nH) :=
  n_chk (n_in hh.1 14 s0 (36 : Int32)) <|
  let h1 : nH := (hh.1, n_up hh.2 s0 (36 : Int32).toNatClampNeg (105 : Int32))
  n_chk (n_in h1.1 14 s0 (37 : Int32)) <|
  let h2 : nH := (h1.1, n_up h1.2 s0 (37 : Int32).toNatClampNeg (103 : Int32))
  n_chk (n_in h2.1 14 s0 (38 : Int32)) <|
  let h3 : nH := (h2.1, n_up h2.2 s0 (38 : Int32).toNatClampNeg (104 : Int32))
  n_chk (n_in h3.1 14 s0 (39 : Int32)) <|
  let h4 : nH := (h3.1, n_up h3.2 s0 (39 : Int32).toNatClampNeg (116 : Int32))
  fX12_init_327 x0 s0 s1 h4
set_option maxRecDepth 200000 in
theorem bX12_init_303 {l : Launch} {w : nW} (x0 : Nat) (s0 : Nat) (s1 : Nat) (hh : nH) (r : Unit × nH) (h : fX12_init_303 x0 s0 s1 hh = some r) : n_At l w 0 mX12_init 303 [(0, .ref x0)] [.ref s0, .ref s1] hh (dv_v r.1, r.2) :=
  n_segd (K := [(327, fun lv st hh => n_lR lv 0 (fun x0 => n_pR st (fun s0 st => n_pR st (fun s1 st => n_pE st (fX12_init_327 x0 s0 s1 hh)))))]) (fin := fun r => (dv_v r.1, r.2)) 19 (iX12_init) (n_kcd (fun lv st hh r h => by
      obtain ⟨x0, e0, h1⟩ := n_lR_x h
      obtain ⟨s0, t0, rfl, h2⟩ := n_pR_x h1
      obtain ⟨s1, t1, rfl, h3⟩ := n_pR_x h2
      obtain ⟨rfl, h4⟩ := n_pE_x h3
      exact n_sub (n_qc e0 n_qe) (bX12_init_327 x0 s0 s1 hh r h4)) n_ked) (by rfl) h
def fX12_init_279 (x0 : Nat) (s0 : Nat) (s1 : Nat) (hh : nH) : Option (Unit × nH) :=
  n_chk (n_in hh.1 14 s0 (32 : Int32)) <|
  let h1 : nH := (hh.1, n_up hh.2 s0 (32 : Int32).toNatClampNeg (32 : Int32))
  n_chk (n_in h1.1 14 s0 (33 : Int32)) <|
  let h2 : nH := (h1.1, n_up h1.2 s0 (33 : Int32).toNatClampNeg (115 : Int32))
  n_chk (n_in h2.1 14 s0 (34 : Int32)) <|
  let h3 : nH := (h2.1, n_up h2.2 s0 (34 : Int32).toNatClampNeg (108 : Int32))
  n_chk (n_in h3.1 14 s0 (35 : Int32)) <|
  let h4 : nH := (h3.1, n_up h3.2 s0 (35 : Int32).toNatClampNeg (101 : Int32))
  fX12_init_303 x0 s0 s1 h4
set_option maxRecDepth 200000 in
theorem bX12_init_279 {l : Launch} {w : nW} (x0 : Nat) (s0 : Nat) (s1 : Nat) (hh : nH) (r : Unit × nH) (h : fX12_init_279 x0 s0 s1 hh = some r) : n_At l w 0 mX12_init 279 [(0, .ref x0)] [.ref s0, .ref s1] hh (dv_v r.1, r.2) :=
  n_segd (K := [(303, fun lv st hh => n_lR lv 0 (fun x0 => n_pR st (fun s0 st => n_pR st (fun s1 st => n_pE st (fX12_init_303 x0 s0 s1 hh)))))]) (fin := fun r => (dv_v r.1, r.2)) 19 (iX12_init) (n_kcd (fun lv st hh r h => by
      obtain ⟨x0, e0, h1⟩ := n_lR_x h
      obtain ⟨s0, t0, rfl, h2⟩ := n_pR_x h1
      obtain ⟨s1, t1, rfl, h3⟩ := n_pR_x h2
      obtain ⟨rfl, h4⟩ := n_pE_x h3
      exact n_sub (n_qc e0 n_qe) (bX12_init_303 x0 s0 s1 hh r h4)) n_ked) (by rfl) h
def fX12_init_255 (x0 : Nat) (s0 : Nat) (s1 : Nat) (hh : nH) : Option (Unit × nH) :=
  n_chk (n_in hh.1 14 s0 (28 : Int32)) <|
  let h1 : nH := (hh.1, n_up hh.2 s0 (28 : Int32).toNatClampNeg (32 : Int32))
  n_chk (n_in h1.1 14 s0 (29 : Int32)) <|
  let h2 : nH := (h1.1, n_up h1.2 s0 (29 : Int32).toNatClampNeg (110 : Int32))
  n_chk (n_in h2.1 14 s0 (30 : Int32)) <|
  let h3 : nH := (h2.1, n_up h2.2 s0 (30 : Int32).toNatClampNeg (111 : Int32))
  n_chk (n_in h3.1 14 s0 (31 : Int32)) <|
  let h4 : nH := (h3.1, n_up h3.2 s0 (31 : Int32).toNatClampNeg (116 : Int32))
  fX12_init_279 x0 s0 s1 h4
set_option maxRecDepth 200000 in
theorem bX12_init_255 {l : Launch} {w : nW} (x0 : Nat) (s0 : Nat) (s1 : Nat) (hh : nH) (r : Unit × nH) (h : fX12_init_255 x0 s0 s1 hh = some r) : n_At l w 0 mX12_init 255 [(0, .ref x0)] [.ref s0, .ref s1] hh (dv_v r.1, r.2) :=
  n_segd (K := [(279, fun lv st hh => n_lR lv 0 (fun x0 => n_pR st (fun s0 st => n_pR st (fun s1 st => n_pE st (fX12_init_279 x0 s0 s1 hh)))))]) (fin := fun r => (dv_v r.1, r.2)) 19 (iX12_init) (n_kcd (fun lv st hh r h => by
      obtain ⟨x0, e0, h1⟩ := n_lR_x h
      obtain ⟨s0, t0, rfl, h2⟩ := n_pR_x h1
      obtain ⟨s1, t1, rfl, h3⟩ := n_pR_x h2
      obtain ⟨rfl, h4⟩ := n_pE_x h3
      exact n_sub (n_qc e0 n_qe) (bX12_init_279 x0 s0 s1 hh r h4)) n_ked) (by rfl) h
def fX12_init_231 (x0 : Nat) (s0 : Nat) (s1 : Nat) (hh : nH) : Option (Unit × nH) :=
  n_chk (n_in hh.1 14 s0 (24 : Int32)) <|
  let h1 : nH := (hh.1, n_up hh.2 s0 (24 : Int32).toNatClampNeg (32 : Int32))
  n_chk (n_in h1.1 14 s0 (25 : Int32)) <|
  let h2 : nH := (h1.1, n_up h1.2 s0 (25 : Int32).toNatClampNeg (97 : Int32))
  n_chk (n_in h2.1 14 s0 (26 : Int32)) <|
  let h3 : nH := (h2.1, n_up h2.2 s0 (26 : Int32).toNatClampNeg (110 : Int32))
  n_chk (n_in h3.1 14 s0 (27 : Int32)) <|
  let h4 : nH := (h3.1, n_up h3.2 s0 (27 : Int32).toNatClampNeg (100 : Int32))
  fX12_init_255 x0 s0 s1 h4
set_option maxRecDepth 200000 in
theorem bX12_init_231 {l : Launch} {w : nW} (x0 : Nat) (s0 : Nat) (s1 : Nat) (hh : nH) (r : Unit × nH) (h : fX12_init_231 x0 s0 s1 hh = some r) : n_At l w 0 mX12_init 231 [(0, .ref x0)] [.ref s0, .ref s1] hh (dv_v r.1, r.2) :=
  n_segd (K := [(255, fun lv st hh => n_lR lv 0 (fun x0 => n_pR st (fun s0 st => n_pR st (fun s1 st => n_pE st (fX12_init_255 x0 s0 s1 hh)))))]) (fin := fun r => (dv_v r.1, r.2)) 19 (iX12_init) (n_kcd (fun lv st hh r h => by
      obtain ⟨x0, e0, h1⟩ := n_lR_x h
      obtain ⟨s0, t0, rfl, h2⟩ := n_pR_x h1
      obtain ⟨s1, t1, rfl, h3⟩ := n_pR_x h2
      obtain ⟨rfl, h4⟩ := n_pE_x h3
      exact n_sub (n_qc e0 n_qe) (bX12_init_255 x0 s0 s1 hh r h4)) n_ked) (by rfl) h
def fX12_init_207 (x0 : Nat) (s0 : Nat) (s1 : Nat) (hh : nH) : Option (Unit × nH) :=
  n_chk (n_in hh.1 14 s0 (20 : Int32)) <|
  let h1 : nH := (hh.1, n_up hh.2 s0 (20 : Int32).toNatClampNeg (110 : Int32))
  n_chk (n_in h1.1 14 s0 (21 : Int32)) <|
  let h2 : nH := (h1.1, n_up h1.2 s0 (21 : Int32).toNatClampNeg (32 : Int32))
  n_chk (n_in h2.1 14 s0 (22 : Int32)) <|
  let h3 : nH := (h2.1, n_up h2.2 s0 (22 : Int32).toNatClampNeg (111 : Int32))
  n_chk (n_in h3.1 14 s0 (23 : Int32)) <|
  let h4 : nH := (h3.1, n_up h3.2 s0 (23 : Int32).toNatClampNeg (114 : Int32))
  fX12_init_231 x0 s0 s1 h4
set_option maxRecDepth 200000 in
theorem bX12_init_207 {l : Launch} {w : nW} (x0 : Nat) (s0 : Nat) (s1 : Nat) (hh : nH) (r : Unit × nH) (h : fX12_init_207 x0 s0 s1 hh = some r) : n_At l w 0 mX12_init 207 [(0, .ref x0)] [.ref s0, .ref s1] hh (dv_v r.1, r.2) :=
  n_segd (K := [(231, fun lv st hh => n_lR lv 0 (fun x0 => n_pR st (fun s0 st => n_pR st (fun s1 st => n_pE st (fX12_init_231 x0 s0 s1 hh)))))]) (fin := fun r => (dv_v r.1, r.2)) 19 (iX12_init) (n_kcd (fun lv st hh r h => by
      obtain ⟨x0, e0, h1⟩ := n_lR_x h
      obtain ⟨s0, t0, rfl, h2⟩ := n_pR_x h1
      obtain ⟨s1, t1, rfl, h3⟩ := n_pR_x h2
      obtain ⟨rfl, h4⟩ := n_pE_x h3
      exact n_sub (n_qc e0 n_qe) (bX12_init_231 x0 s0 s1 hh r h4)) n_ked) (by rfl) h
def fX12_init_183 (x0 : Nat) (s0 : Nat) (s1 : Nat) (hh : nH) : Option (Unit × nH) :=
  n_chk (n_in hh.1 14 s0 (16 : Int32)) <|
  let h1 : nH := (hh.1, n_up hh.2 s0 (16 : Int32).toNatClampNeg (32 : Int32))
  n_chk (n_in h1.1 14 s0 (17 : Int32)) <|
  let h2 : nH := (h1.1, n_up h1.2 s0 (17 : Int32).toNatClampNeg (119 : Int32))
  n_chk (n_in h2.1 14 s0 (18 : Int32)) <|
  let h3 : nH := (h2.1, n_up h2.2 s0 (18 : Int32).toNatClampNeg (104 : Int32))
  n_chk (n_in h3.1 14 s0 (19 : Int32)) <|
  let h4 : nH := (h3.1, n_up h3.2 s0 (19 : Int32).toNatClampNeg (101 : Int32))
  fX12_init_207 x0 s0 s1 h4
set_option maxRecDepth 200000 in
theorem bX12_init_183 {l : Launch} {w : nW} (x0 : Nat) (s0 : Nat) (s1 : Nat) (hh : nH) (r : Unit × nH) (h : fX12_init_183 x0 s0 s1 hh = some r) : n_At l w 0 mX12_init 183 [(0, .ref x0)] [.ref s0, .ref s1] hh (dv_v r.1, r.2) :=
  n_segd (K := [(207, fun lv st hh => n_lR lv 0 (fun x0 => n_pR st (fun s0 st => n_pR st (fun s1 st => n_pE st (fX12_init_207 x0 s0 s1 hh)))))]) (fin := fun r => (dv_v r.1, r.2)) 19 (iX12_init) (n_kcd (fun lv st hh r h => by
      obtain ⟨x0, e0, h1⟩ := n_lR_x h
      obtain ⟨s0, t0, rfl, h2⟩ := n_pR_x h1
      obtain ⟨s1, t1, rfl, h3⟩ := n_pR_x h2
      obtain ⟨rfl, h4⟩ := n_pE_x h3
      exact n_sub (n_qc e0 n_qe) (bX12_init_207 x0 s0 s1 hh r h4)) n_ked) (by rfl) h
def fX12_init_159 (x0 : Nat) (s0 : Nat) (s1 : Nat) (hh : nH) : Option (Unit × nH) :=
  n_chk (n_in hh.1 14 s0 (12 : Int32)) <|
  let h1 : nH := (hh.1, n_up hh.2 s0 (12 : Int32).toNatClampNeg (105 : Int32))
  n_chk (n_in h1.1 14 s0 (13 : Int32)) <|
  let h2 : nH := (h1.1, n_up h1.2 s0 (13 : Int32).toNatClampNeg (110 : Int32))
  n_chk (n_in h2.1 14 s0 (14 : Int32)) <|
  let h3 : nH := (h2.1, n_up h2.2 s0 (14 : Int32).toNatClampNeg (100 : Int32))
  n_chk (n_in h3.1 14 s0 (15 : Int32)) <|
  let h4 : nH := (h3.1, n_up h3.2 s0 (15 : Int32).toNatClampNeg (115 : Int32))
  fX12_init_183 x0 s0 s1 h4
set_option maxRecDepth 200000 in
theorem bX12_init_159 {l : Launch} {w : nW} (x0 : Nat) (s0 : Nat) (s1 : Nat) (hh : nH) (r : Unit × nH) (h : fX12_init_159 x0 s0 s1 hh = some r) : n_At l w 0 mX12_init 159 [(0, .ref x0)] [.ref s0, .ref s1] hh (dv_v r.1, r.2) :=
  n_segd (K := [(183, fun lv st hh => n_lR lv 0 (fun x0 => n_pR st (fun s0 st => n_pR st (fun s1 st => n_pE st (fX12_init_183 x0 s0 s1 hh)))))]) (fin := fun r => (dv_v r.1, r.2)) 19 (iX12_init) (n_kcd (fun lv st hh r h => by
      obtain ⟨x0, e0, h1⟩ := n_lR_x h
      obtain ⟨s0, t0, rfl, h2⟩ := n_pR_x h1
      obtain ⟨s1, t1, rfl, h3⟩ := n_pR_x h2
      obtain ⟨rfl, h4⟩ := n_pE_x h3
      exact n_sub (n_qc e0 n_qe) (bX12_init_183 x0 s0 s1 hh r h4)) n_ked) (by rfl) h
def fX12_init_135 (x0 : Nat) (s0 : Nat) (s1 : Nat) (hh : nH) : Option (Unit × nH) :=
  n_chk (n_in hh.1 14 s0 (8 : Int32)) <|
  let h1 : nH := (hh.1, n_up hh.2 s0 (8 : Int32).toNatClampNeg (97 : Int32))
  n_chk (n_in h1.1 14 s0 (9 : Int32)) <|
  let h2 : nH := (h1.1, n_up h1.2 s0 (9 : Int32).toNatClampNeg (114 : Int32))
  n_chk (n_in h2.1 14 s0 (10 : Int32)) <|
  let h3 : nH := (h2.1, n_up h2.2 s0 (10 : Int32).toNatClampNeg (32 : Int32))
  n_chk (n_in h3.1 14 s0 (11 : Int32)) <|
  let h4 : nH := (h3.1, n_up h3.2 s0 (11 : Int32).toNatClampNeg (102 : Int32))
  fX12_init_159 x0 s0 s1 h4
set_option maxRecDepth 200000 in
theorem bX12_init_135 {l : Launch} {w : nW} (x0 : Nat) (s0 : Nat) (s1 : Nat) (hh : nH) (r : Unit × nH) (h : fX12_init_135 x0 s0 s1 hh = some r) : n_At l w 0 mX12_init 135 [(0, .ref x0)] [.ref s0, .ref s1] hh (dv_v r.1, r.2) :=
  n_segd (K := [(159, fun lv st hh => n_lR lv 0 (fun x0 => n_pR st (fun s0 st => n_pR st (fun s1 st => n_pE st (fX12_init_159 x0 s0 s1 hh)))))]) (fin := fun r => (dv_v r.1, r.2)) 19 (iX12_init) (n_kcd (fun lv st hh r h => by
      obtain ⟨x0, e0, h1⟩ := n_lR_x h
      obtain ⟨s0, t0, rfl, h2⟩ := n_pR_x h1
      obtain ⟨s1, t1, rfl, h3⟩ := n_pR_x h2
      obtain ⟨rfl, h4⟩ := n_pE_x h3
      exact n_sub (n_qc e0 n_qe) (bX12_init_159 x0 s0 s1 hh r h4)) n_ked) (by rfl) h
def fX12_init_113 (x0 : Nat) (s0 : Nat) (s1 : Nat) (hh : nH) : Option (Unit × nH) :=
  n_chk (n_in hh.1 14 s0 (4 : Int32)) <|
  let h1 : nH := (hh.1, n_up hh.2 s0 (4 : Int32).toNatClampNeg (109 : Int32))
  n_chk (n_in h1.1 14 s0 (5 : Int32)) <|
  let h2 : nH := (h1.1, n_up h1.2 s0 (5 : Int32).toNatClampNeg (115 : Int32))
  n_chk (n_in h2.1 14 s0 (6 : Int32)) <|
  let h3 : nH := (h2.1, n_up h2.2 s0 (6 : Int32).toNatClampNeg (32 : Int32))
  n_chk (n_in h3.1 14 s0 (7 : Int32)) <|
  let h4 : nH := (h3.1, n_up h3.2 s0 (7 : Int32).toNatClampNeg (102 : Int32))
  fX12_init_135 x0 s0 s1 h4
set_option maxRecDepth 200000 in
theorem bX12_init_113 {l : Launch} {w : nW} (x0 : Nat) (s0 : Nat) (s1 : Nat) (hh : nH) (r : Unit × nH) (h : fX12_init_113 x0 s0 s1 hh = some r) : n_At l w 0 mX12_init 113 [(0, .ref x0)] [.ref s0, .ref s1] hh (dv_v r.1, r.2) :=
  n_segd (K := [(135, fun lv st hh => n_lR lv 0 (fun x0 => n_pR st (fun s0 st => n_pR st (fun s1 st => n_pE st (fX12_init_135 x0 s0 s1 hh)))))]) (fin := fun r => (dv_v r.1, r.2)) 19 (iX12_init) (n_kcd (fun lv st hh r h => by
      obtain ⟨x0, e0, h1⟩ := n_lR_x h
      obtain ⟨s0, t0, rfl, h2⟩ := n_pR_x h1
      obtain ⟨s1, t1, rfl, h3⟩ := n_pR_x h2
      obtain ⟨rfl, h4⟩ := n_pE_x h3
      exact n_sub (n_qc e0 n_qe) (bX12_init_135 x0 s0 s1 hh r h4)) n_ked) (by rfl) h
def fX12_init_91 (x0 : Nat) (s0 : Int32) (s1 : Nat) (hh : nH) : Option (Unit × nH) :=
  n_chk (!decide (s0 < 0) && Nat.ble (s0.toNatClampNeg * 4) 536870912) <|
  let a1 : Nat := n_n hh.1 + 1
  let h2 : nH := n_alloc hh 14 s0.toNatClampNeg
  n_chk (n_in h2.1 14 a1 (0 : Int32)) <|
  let h3 : nH := (h2.1, n_up h2.2 a1 (0 : Int32).toNatClampNeg (32 : Int32))
  n_chk (n_in h3.1 14 a1 (1 : Int32)) <|
  let h4 : nH := (h3.1, n_up h3.2 a1 (1 : Int32).toNatClampNeg (112 : Int32))
  n_chk (n_in h4.1 14 a1 (2 : Int32)) <|
  let h5 : nH := (h4.1, n_up h4.2 a1 (2 : Int32).toNatClampNeg (97 : Int32))
  n_chk (n_in h5.1 14 a1 (3 : Int32)) <|
  let h6 : nH := (h5.1, n_up h5.2 a1 (3 : Int32).toNatClampNeg (108 : Int32))
  fX12_init_113 x0 a1 s1 h6
set_option maxRecDepth 200000 in
theorem bX12_init_91 {l : Launch} {w : nW} (x0 : Nat) (s0 : Int32) (s1 : Nat) (hh : nH) (r : Unit × nH) (h : fX12_init_91 x0 s0 s1 hh = some r) : n_At l w 0 mX12_init 91 [(0, .ref x0)] [.int s0, .ref s1] hh (dv_v r.1, r.2) :=
  n_segd (K := [(113, fun lv st hh => n_lR lv 0 (fun x0 => n_pR st (fun s0 st => n_pR st (fun s1 st => n_pE st (fX12_init_113 x0 s0 s1 hh)))))]) (fin := fun r => (dv_v r.1, r.2)) 20 (iX12_init) (n_kcd (fun lv st hh r h => by
      obtain ⟨x0, e0, h1⟩ := n_lR_x h
      obtain ⟨s0, t0, rfl, h2⟩ := n_pR_x h1
      obtain ⟨s1, t1, rfl, h3⟩ := n_pR_x h2
      obtain ⟨rfl, h4⟩ := n_pE_x h3
      exact n_sub (n_qc e0 n_qe) (bX12_init_113 x0 s0 s1 hh r h4)) n_ked) (by rfl) h
def fX12_init_58 (x0 : Nat) (s0 : Nat) (s1 : Nat) (hh : nH) : Option (Unit × nH) :=
  n_chk (Nat.beq (n_kd hh.1 s1) 12) <|
  let h1 : nH := n_upR hh s1 11 s0
  n_chk (!decide ((12 : Int32) < 0) && Nat.ble ((12 : Int32).toNatClampNeg * 4) 536870912) <|
  let a2 : Nat := n_n h1.1 + 1
  let h3 : nH := n_alloc h1 14 (12 : Int32).toNatClampNeg
  n_chk (Nat.beq (n_kd h3.1 x0) 12) <|
  let h4 : nH := n_upR h3 x0 12 a2
  n_chk (!decide ((600 : Int32) < 0) && Nat.ble ((600 : Int32).toNatClampNeg * 4) 536870912) <|
  let a5 : Nat := n_n h4.1 + 1
  let h6 : nH := n_alloc h4 14 (600 : Int32).toNatClampNeg
  n_chk (Nat.beq (n_kd h6.1 x0) 12) <|
  let h7 : nH := n_upR h6 x0 13 a5
  n_chk (!decide ((400 : Int32) < 0) && Nat.ble ((400 : Int32).toNatClampNeg * 4) 536870912) <|
  let a8 : Nat := n_n h7.1 + 1
  let h9 : nH := n_alloc h7 14 (400 : Int32).toNatClampNeg
  n_chk (Nat.beq (n_kd h9.1 x0) 12) <|
  let h10 : nH := n_upR h9 x0 14 a8
  fX12_init_91 x0 (145 : Int32) x0 h10
set_option maxRecDepth 200000 in
theorem bX12_init_58 {l : Launch} {w : nW} (x0 : Nat) (s0 : Nat) (s1 : Nat) (hh : nH) (r : Unit × nH) (h : fX12_init_58 x0 s0 s1 hh = some r) : n_At l w 0 mX12_init 58 [(0, .ref x0)] [.ref s0, .ref s1] hh (dv_v r.1, r.2) :=
  n_segd (K := [(91, fun lv st hh => n_lR lv 0 (fun x0 => n_pI st (fun s0 st => n_pR st (fun s1 st => n_pE st (fX12_init_91 x0 s0 s1 hh)))))]) (fin := fun r => (dv_v r.1, r.2)) 18 (iX12_init) (n_kcd (fun lv st hh r h => by
      obtain ⟨x0, e0, h1⟩ := n_lR_x h
      obtain ⟨s0, t0, rfl, h2⟩ := n_pI_x h1
      obtain ⟨s1, t1, rfl, h3⟩ := n_pR_x h2
      obtain ⟨rfl, h4⟩ := n_pE_x h3
      exact n_sub (n_qc e0 n_qe) (bX12_init_91 x0 s0 s1 hh r h4)) n_ked) (by rfl) h
def fX12_init_29 (x0 : Nat) (hh : nH) : Option (Unit × nH) :=
  n_chk (!decide ((12 : Int32) < 0) && Nat.ble ((12 : Int32).toNatClampNeg * 4) 536870912) <|
  let a1 : Nat := n_n hh.1 + 1
  let h2 : nH := n_alloc hh 14 (12 : Int32).toNatClampNeg
  n_chk (Nat.beq (n_kd h2.1 x0) 12) <|
  let h3 : nH := n_upR h2 x0 8 a1
  n_chk (!decide ((16 : Int32) < 0) && Nat.ble ((16 : Int32).toNatClampNeg * 4) 536870912) <|
  let a4 : Nat := n_n h3.1 + 1
  let h5 : nH := n_alloc h3 14 (16 : Int32).toNatClampNeg
  n_chk (Nat.beq (n_kd h5.1 x0) 12) <|
  let h6 : nH := n_upR h5 x0 9 a4
  n_chk (!decide ((16 : Int32) < 0) && Nat.ble ((16 : Int32).toNatClampNeg * 4) 536870912) <|
  let a7 : Nat := n_n h6.1 + 1
  let h8 : nH := n_alloc h6 14 (16 : Int32).toNatClampNeg
  n_chk (Nat.beq (n_kd h8.1 x0) 12) <|
  let h9 : nH := n_upR h8 x0 10 a7
  n_chk (!decide ((12 : Int32) < 0) && Nat.ble ((12 : Int32).toNatClampNeg * 4) 536870912) <|
  let a10 : Nat := n_n h9.1 + 1
  let h11 : nH := n_alloc h9 14 (12 : Int32).toNatClampNeg
  fX12_init_58 x0 a10 x0 h11
set_option maxRecDepth 200000 in
theorem bX12_init_29 {l : Launch} {w : nW} (x0 : Nat) (hh : nH) (r : Unit × nH) (h : fX12_init_29 x0 hh = some r) : n_At l w 0 mX12_init 29 [(0, .ref x0)] [] hh (dv_v r.1, r.2) :=
  n_segd (K := [(58, fun lv st hh => n_lR lv 0 (fun x0 => n_pR st (fun s0 st => n_pR st (fun s1 st => n_pE st (fX12_init_58 x0 s0 s1 hh)))))]) (fin := fun r => (dv_v r.1, r.2)) 18 (iX12_init) (n_kcd (fun lv st hh r h => by
      obtain ⟨x0, e0, h1⟩ := n_lR_x h
      obtain ⟨s0, t0, rfl, h2⟩ := n_pR_x h1
      obtain ⟨s1, t1, rfl, h3⟩ := n_pR_x h2
      obtain ⟨rfl, h4⟩ := n_pE_x h3
      exact n_sub (n_qc e0 n_qe) (bX12_init_58 x0 s0 s1 hh r h4)) n_ked) (by rfl) h
def fX12_init (x0 : Nat) (hh : nH) : Option (Unit × nH) :=
  n_chk (Nat.blt 0 x0 && true) <|
  n_chk (!decide ((100 : Int32) < 0) && Nat.ble ((100 : Int32).toNatClampNeg * 4) 536870912) <|
  let a1 : Nat := n_n hh.1 + 1
  let h2 : nH := n_alloc hh 14 (100 : Int32).toNatClampNeg
  n_chk (Nat.beq (n_kd h2.1 x0) 12) <|
  let h3 : nH := n_upR h2 x0 1 a1
  n_chk (!decide ((600 : Int32) < 0) && Nat.ble ((600 : Int32).toNatClampNeg * 4) 536870912) <|
  let a4 : Nat := n_n h3.1 + 1
  let h5 : nH := n_alloc h3 14 (600 : Int32).toNatClampNeg
  n_chk (Nat.beq (n_kd h5.1 x0) 12) <|
  let h6 : nH := n_upR h5 x0 2 a4
  n_chk (!decide ((100 : Int32) < 0) && Nat.ble ((100 : Int32).toNatClampNeg * 4) 536870912) <|
  let a7 : Nat := n_n h6.1 + 1
  let h8 : nH := n_alloc h6 14 (100 : Int32).toNatClampNeg
  n_chk (Nat.beq (n_kd h8.1 x0) 12) <|
  let h9 : nH := n_upR h8 x0 4 a7
  fX12_init_29 x0 h9
set_option maxRecDepth 200000 in
theorem bX12_init_0 {l : Launch} {w : nW} (x0 : Nat) (hh : nH) (r : Unit × nH) (h : fX12_init x0 hh = some r) : n_At l w 0 mX12_init 0 [(0, .ref x0)] [] hh (dv_v r.1, r.2) :=
  n_segd (K := [(29, fun lv st hh => n_lR lv 0 (fun x0 => n_pE st (fX12_init_29 x0 hh)))]) (fin := fun r => (dv_v r.1, r.2)) 17 (iX12_init) (n_kcd (fun lv st hh r h => by
      obtain ⟨x0, e0, h1⟩ := n_lR_x h
      obtain ⟨rfl, h2⟩ := n_pE_x h1
      exact n_sub (n_qc e0 n_qe) (bX12_init_29 x0 hh r h2)) n_ked) (by rfl) h
theorem eX12_init {l : Launch} {w : nW} (z0 : Nat) (hh : nH) (r : Unit × nH) (h : fX12_init z0 hh = some r) : n_Met l w 0 mX12_init [.ref z0] hh (dv_v r.1, r.2) :=
  n_entry (by decide +kernel) rfl (Nat.le_of_ble_eq_true rfl) (n_sub (lv := [(0, .ref z0)]) (n_qc rfl n_qe) (bX12_init_0 z0 hh r h))
abbrev hX12_init : nFd := fun T as hh k => n_pR as (fun z0 as => n_pE as ((fX12_init z0 hh).bind fun p => k (dv_v p.1) p.2))
theorem csX12_init {l : Launch} {w : nW} : n_CSd l w 0 mX12_init (hX12_init) := fun T as hh k r h => by
  obtain ⟨z0, t0, rfl, h1⟩ := n_pR_x h
  obtain ⟨rfl, hE⟩ := n_pE_x h1
  obtain ⟨p, hp, hk⟩ := Option.bind_eq_some_iff.mp hE
  exact ⟨_, _, eX12_init z0 hh p hp, hk⟩
