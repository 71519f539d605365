/-! ===== SleightHouseModel.readAny()I ===== -/
def mX12_readAny : nY := (RX12, yX12_readAny, cX12_readAny, 4, some .int)
theorem okX12_readAny : n_MOK mX12_readAny 0 := ⟨w_1812, w_151, ⟨by decide +kernel, by decide +kernel, by decide +kernel⟩, by decide⟩
abbrev aX12_readAny (N : Nat) : List (Nat × nO (Int32 × nM)) := [(0, o_push (.int (0 : Int32)) 1), (1, o_istore 4 1 2), (2, o_aload 0 3), (3, o_push (.int (0 : Int32)) 4), (4, o_pIc 107 32 7), (7, o_push (.int (1 : Int32)) 8), (8, o_istore 4 2 9), (9, o_iload 2 10), (10, oi_eq 109 13), (13, o_aload 0 14), (14, o_push (.int (6 : Int32)) 16), (16, o_callVc 107 1 (hX12_isWord) 19), (19, o_istore 4 3 20), (20, o_iload 3 21), (21, oi_ne 33 24), (24, o_aload 0 25), (25, o_push (.int (40 : Int32)) 27), (27, o_callVc 107 1 (hX12_isSign) 30), (30, oi_eq 88 33), (33, o_aload 0 34), (34, o_gIc 107 30 37), (37, o_push (.int (8 : Int32)) 39), (39, oc_ne 48 42), (42, o_aload 0 43), (43, o_push (.int (3 : Int32)) 44), (44, o_callVc 107 1 (hX12_errs) 47), (47, o_iret), (48, o_aload 0 49), (49, o_aload 0 50), (50, o_gIc 107 30 53), (53, o_push (.int (1 : Int32)) 54), (54, o_iadd 55), (55, o_pIc 107 30 58), (58, o_iload 3 59), (59, oi_ne 66 62), (62, o_iload 1 63), (63, o_push (.int (1 : Int32)) 64), (64, o_iadd 65), (65, o_istore 4 1 66), (66, o_aload 0 67), (67, o_iload 3 68), (68, oi_eq 76 71), (71, o_push (.int (9 : Int32)) 73), (73, o_goto 78), (76, o_push (.int (12 : Int32)) 78), (78, o_callVc 107 1 (hX12_waits) 81), (81, o_aload 0 82), (82, o_callVc 107 0 (hX12_reads N) 85), (85, o_goto 9), (88, o_aload 0 89), (89, o_callVc 107 0 (hX12_readCompared N) 92), (92, o_push (.int (-1 : Int32)) 93), (93, oc_ne 98 96), (96, o_push (.int (-1 : Int32)) 97), (97, o_iret), (98, o_aload 0 99), (99, o_push (.int (9 : Int32)) 101), (101, o_callVc 107 1 (hX12_settles N) 104), (104, o_push (.int (0 : Int32)) 105), (105, o_istore 4 2 106), (106, o_goto 9), (109, o_aload 0 110), (110, o_push (.int (5 : Int32)) 111), (111, o_callVc 107 1 (hX12_isWord) 114), (114, oi_eq 138 117), (117, o_aload 0 118), (118, o_push (.int (10 : Int32)) 120), (120, o_callVc 107 1 (hX12_settles N) 123), (123, o_aload 0 124), (124, o_push (.int (10 : Int32)) 126), (126, o_callVc 107 1 (hX12_waits) 129), (129, o_aload 0 130), (130, o_callVc 107 0 (hX12_reads N) 133), (133, o_push (.int (1 : Int32)) 134), (134, o_istore 4 2 135), (135, o_goto 9), (138, o_aload 0 139), (139, o_push (.int (4 : Int32)) 140), (140, o_callVc 107 1 (hX12_isWord) 143), (143, oi_eq 173 146), (146, o_aload 0 147), (147, o_push (.int (10 : Int32)) 149), (149, o_callVc 107 1 (hX12_settles N) 152), (152, o_aload 0 153), (153, o_push (.int (11 : Int32)) 155), (155, o_callVc 107 1 (hX12_settles N) 158), (158, o_aload 0 159), (159, o_push (.int (11 : Int32)) 161), (161, o_callVc 107 1 (hX12_waits) 164), (164, o_aload 0 165), (165, o_callVc 107 0 (hX12_reads N) 168), (168, o_push (.int (1 : Int32)) 169), (169, o_istore 4 2 170), (170, o_goto 9), (173, o_aload 0 174), (174, o_push (.int (10 : Int32)) 176), (176, o_callVc 107 1 (hX12_settles N) 179), (179, o_aload 0 180), (180, o_push (.int (11 : Int32)) 182), (182, o_callVc 107 1 (hX12_settles N) 185), (185, o_iload 1 186), (186, oi_ne 191 189), (189, o_push (.int (0 : Int32)) 190), (190, o_iret), (191, o_aload 0 192), (192, o_push (.int (41 : Int32)) 194), (194, o_callVc 107 1 (hX12_isSign) 197), (197, oi_ne 206 200), (200, o_aload 0 201), (201, o_push (.int (1 : Int32)) 202), (202, o_callVc 107 1 (hX12_errs) 205), (205, o_iret), (206, o_aload 0 207), (207, o_aload 0 208), (208, o_gIc 107 32 211), (211, o_push (.int (1 : Int32)) 212), (212, o_isub 213), (213, o_pIc 107 32 216), (216, o_iload 1 217), (217, o_push (.int (1 : Int32)) 218), (218, o_isub 219), (219, o_istore 4 1 220), (220, o_aload 0 221), (221, o_aload 0 222), (222, o_gIc 107 30 225), (225, o_push (.int (1 : Int32)) 226), (226, o_isub 227), (227, o_pIc 107 30 230), (230, o_aload 0 231), (231, o_push (.int (9 : Int32)) 233), (233, o_callVc 107 1 (hX12_settles N) 236), (236, o_aload 0 237), (237, o_callVc 107 0 (hX12_reads N) 240), (240, o_goto 9)]
set_option maxRecDepth 200000 in
theorem iX12_readAny {l : Launch} {w : nW} (N : Nat) {G : nG} (hG : n_GOK G) : n_AllS l w 7 mX12_readAny G (n_fin dv_i G) (aX12_readAny N) :=
  n_c (s_iconst (pc := 0) (n := 0) (by decide +kernel) (by decide +kernel)) <|
  n_c (s_istore_n (pc := 1) (k := 1) (by decide +kernel)) <|
  n_c (s_aload_n (pc := 2) (k := 0) (by decide +kernel)) <|
  n_c (s_iconst (pc := 3) (n := 0) (by decide +kernel) (by decide +kernel)) <|
  n_c (s_pIc (s_putI (pc := 4) (ci := 12) (k := 32) (idx := 258) nok12 (by decide) rfl rfl (by decide +kernel) w_1439) (gk107 hG)) <|
  n_c (s_iconst (pc := 7) (n := 1) (by decide +kernel) (by decide +kernel)) <|
  n_c (s_istore_n (pc := 8) (k := 2) (by decide +kernel)) <|
  n_c (s_iload_n (pc := 9) (k := 2) (by decide +kernel)) <|
  n_c (s_if_eq (pc := 10) (off := 99) (by decide +kernel) (by decide +kernel)) <|
  n_c (s_aload_n (pc := 13) (k := 0) (by decide +kernel)) <|
  n_c (s_bipush (pc := 14) (n := 6) (by decide +kernel) (by decide +kernel)) <|
  n_c (s_callVc (s_callV (pc := 16) (csX12_isWord hG) (by decide) okX12_isWord nok12 w_1735 w_60 w_1733 (by decide +kernel)) (gk107 hG)) <|
  n_c (s_istore_n (pc := 19) (k := 3) (by decide +kernel)) <|
  n_c (s_iload_n (pc := 20) (k := 3) (by decide +kernel)) <|
  n_c (s_if_ne (pc := 21) (off := 12) (by decide +kernel) (by decide +kernel)) <|
  n_c (s_aload_n (pc := 24) (k := 0) (by decide +kernel)) <|
  n_c (s_bipush (pc := 25) (n := 40) (by decide +kernel) (by decide +kernel)) <|
  n_c (s_callVc (s_callV (pc := 27) (csX12_isSign hG) (by decide) okX12_isSign nok12 w_1759 w_66 w_1757 (by decide +kernel)) (gk107 hG)) <|
  n_c (s_if_eq (pc := 30) (off := 58) (by decide +kernel) (by decide +kernel)) <|
  n_c (s_aload_n (pc := 33) (k := 0) (by decide +kernel)) <|
  n_c (s_gIc (s_getI (pc := 34) (ci := 12) (k := 30) (idx := 261) nok12 (by decide) rfl (by decide +kernel) w_1437) (gk107 hG)) <|
  n_c (s_bipush (pc := 37) (n := 8) (by decide +kernel) (by decide +kernel)) <|
  n_c (s_icmp_ne (pc := 39) (off := 9) (by decide +kernel) (by decide +kernel)) <|
  n_c (s_aload_n (pc := 42) (k := 0) (by decide +kernel)) <|
  n_c (s_iconst (pc := 43) (n := 3) (by decide +kernel) (by decide +kernel)) <|
  n_c (s_callVc (s_callV (pc := 44) (csX12_errs hG) (by decide) okX12_errs nok12 w_1739 w_61 w_1737 (by decide +kernel)) (gk107 hG)) <|
  n_c (s_iret (pc := 47) rfl (by decide +kernel)) <|
  n_c (s_aload_n (pc := 48) (k := 0) (by decide +kernel)) <|
  n_c (s_aload_n (pc := 49) (k := 0) (by decide +kernel)) <|
  n_c (s_gIc (s_getI (pc := 50) (ci := 12) (k := 30) (idx := 261) nok12 (by decide) rfl (by decide +kernel) w_1437) (gk107 hG)) <|
  n_c (s_iconst (pc := 53) (n := 1) (by decide +kernel) (by decide +kernel)) <|
  n_c (s_iadd (pc := 54) (by decide +kernel)) <|
  n_c (s_pIc (s_putI (pc := 55) (ci := 12) (k := 30) (idx := 261) nok12 (by decide) rfl rfl (by decide +kernel) w_1437) (gk107 hG)) <|
  n_c (s_iload_n (pc := 58) (k := 3) (by decide +kernel)) <|
  n_c (s_if_ne (pc := 59) (off := 7) (by decide +kernel) (by decide +kernel)) <|
  n_c (s_iload_n (pc := 62) (k := 1) (by decide +kernel)) <|
  n_c (s_iconst (pc := 63) (n := 1) (by decide +kernel) (by decide +kernel)) <|
  n_c (s_iadd (pc := 64) (by decide +kernel)) <|
  n_c (s_istore_n (pc := 65) (k := 1) (by decide +kernel)) <|
  n_c (s_aload_n (pc := 66) (k := 0) (by decide +kernel)) <|
  n_c (s_iload_n (pc := 67) (k := 3) (by decide +kernel)) <|
  n_c (s_if_eq (pc := 68) (off := 8) (by decide +kernel) (by decide +kernel)) <|
  n_c (s_bipush (pc := 71) (n := 9) (by decide +kernel) (by decide +kernel)) <|
  n_c (s_goto (pc := 73) (off := 5) (by decide +kernel) (by decide +kernel)) <|
  n_c (s_bipush (pc := 76) (n := 12) (by decide +kernel) (by decide +kernel)) <|
  n_c (s_callVc (s_callV (pc := 78) (csX12_waits hG) (by decide) okX12_waits nok12 w_1815 w_80 w_1813 (by decide +kernel)) (gk107 hG)) <|
  n_c (s_aload_n (pc := 81) (k := 0) (by decide +kernel)) <|
  n_c (s_callVc (s_callV (pc := 82) (csX12_reads N hG) (by decide) okX12_reads nok12 w_1707 w_53 w_1705 (by decide +kernel)) (gk107 hG)) <|
  n_c (s_goto (pc := 85) (off := -76) (by decide +kernel) (by decide +kernel)) <|
  n_c (s_aload_n (pc := 88) (k := 0) (by decide +kernel)) <|
  n_c (s_callVc (s_callV (pc := 89) (csX12_readCompared N hG) (by decide) okX12_readCompared nok12 w_1819 w_81 w_1817 (by decide +kernel)) (gk107 hG)) <|
  n_c (s_iconst (pc := 92) (n := -1) (by decide +kernel) (by decide +kernel)) <|
  n_c (s_icmp_ne (pc := 93) (off := 5) (by decide +kernel) (by decide +kernel)) <|
  n_c (s_iconst (pc := 96) (n := -1) (by decide +kernel) (by decide +kernel)) <|
  n_c (s_iret (pc := 97) rfl (by decide +kernel)) <|
  n_c (s_aload_n (pc := 98) (k := 0) (by decide +kernel)) <|
  n_c (s_bipush (pc := 99) (n := 9) (by decide +kernel) (by decide +kernel)) <|
  n_c (s_callVc (s_callV (pc := 101) (csX12_settles N hG) (by decide) okX12_settles nok12 w_1823 w_82 w_1821 (by decide +kernel)) (gk107 hG)) <|
  n_c (s_iconst (pc := 104) (n := 0) (by decide +kernel) (by decide +kernel)) <|
  n_c (s_istore_n (pc := 105) (k := 2) (by decide +kernel)) <|
  n_c (s_goto (pc := 106) (off := -97) (by decide +kernel) (by decide +kernel)) <|
  n_c (s_aload_n (pc := 109) (k := 0) (by decide +kernel)) <|
  n_c (s_iconst (pc := 110) (n := 5) (by decide +kernel) (by decide +kernel)) <|
  n_c (s_callVc (s_callV (pc := 111) (csX12_isWord hG) (by decide) okX12_isWord nok12 w_1735 w_60 w_1733 (by decide +kernel)) (gk107 hG)) <|
  n_c (s_if_eq (pc := 114) (off := 24) (by decide +kernel) (by decide +kernel)) <|
  n_c (s_aload_n (pc := 117) (k := 0) (by decide +kernel)) <|
  n_c (s_bipush (pc := 118) (n := 10) (by decide +kernel) (by decide +kernel)) <|
  n_c (s_callVc (s_callV (pc := 120) (csX12_settles N hG) (by decide) okX12_settles nok12 w_1823 w_82 w_1821 (by decide +kernel)) (gk107 hG)) <|
  n_c (s_aload_n (pc := 123) (k := 0) (by decide +kernel)) <|
  n_c (s_bipush (pc := 124) (n := 10) (by decide +kernel) (by decide +kernel)) <|
  n_c (s_callVc (s_callV (pc := 126) (csX12_waits hG) (by decide) okX12_waits nok12 w_1815 w_80 w_1813 (by decide +kernel)) (gk107 hG)) <|
  n_c (s_aload_n (pc := 129) (k := 0) (by decide +kernel)) <|
  n_c (s_callVc (s_callV (pc := 130) (csX12_reads N hG) (by decide) okX12_reads nok12 w_1707 w_53 w_1705 (by decide +kernel)) (gk107 hG)) <|
  n_c (s_iconst (pc := 133) (n := 1) (by decide +kernel) (by decide +kernel)) <|
  n_c (s_istore_n (pc := 134) (k := 2) (by decide +kernel)) <|
  n_c (s_goto (pc := 135) (off := -126) (by decide +kernel) (by decide +kernel)) <|
  n_c (s_aload_n (pc := 138) (k := 0) (by decide +kernel)) <|
  n_c (s_iconst (pc := 139) (n := 4) (by decide +kernel) (by decide +kernel)) <|
  n_c (s_callVc (s_callV (pc := 140) (csX12_isWord hG) (by decide) okX12_isWord nok12 w_1735 w_60 w_1733 (by decide +kernel)) (gk107 hG)) <|
  n_c (s_if_eq (pc := 143) (off := 30) (by decide +kernel) (by decide +kernel)) <|
  n_c (s_aload_n (pc := 146) (k := 0) (by decide +kernel)) <|
  n_c (s_bipush (pc := 147) (n := 10) (by decide +kernel) (by decide +kernel)) <|
  n_c (s_callVc (s_callV (pc := 149) (csX12_settles N hG) (by decide) okX12_settles nok12 w_1823 w_82 w_1821 (by decide +kernel)) (gk107 hG)) <|
  n_c (s_aload_n (pc := 152) (k := 0) (by decide +kernel)) <|
  n_c (s_bipush (pc := 153) (n := 11) (by decide +kernel) (by decide +kernel)) <|
  n_c (s_callVc (s_callV (pc := 155) (csX12_settles N hG) (by decide) okX12_settles nok12 w_1823 w_82 w_1821 (by decide +kernel)) (gk107 hG)) <|
  n_c (s_aload_n (pc := 158) (k := 0) (by decide +kernel)) <|
  n_c (s_bipush (pc := 159) (n := 11) (by decide +kernel) (by decide +kernel)) <|
  n_c (s_callVc (s_callV (pc := 161) (csX12_waits hG) (by decide) okX12_waits nok12 w_1815 w_80 w_1813 (by decide +kernel)) (gk107 hG)) <|
  n_c (s_aload_n (pc := 164) (k := 0) (by decide +kernel)) <|
  n_c (s_callVc (s_callV (pc := 165) (csX12_reads N hG) (by decide) okX12_reads nok12 w_1707 w_53 w_1705 (by decide +kernel)) (gk107 hG)) <|
  n_c (s_iconst (pc := 168) (n := 1) (by decide +kernel) (by decide +kernel)) <|
  n_c (s_istore_n (pc := 169) (k := 2) (by decide +kernel)) <|
  n_c (s_goto (pc := 170) (off := -161) (by decide +kernel) (by decide +kernel)) <|
  n_c (s_aload_n (pc := 173) (k := 0) (by decide +kernel)) <|
  n_c (s_bipush (pc := 174) (n := 10) (by decide +kernel) (by decide +kernel)) <|
  n_c (s_callVc (s_callV (pc := 176) (csX12_settles N hG) (by decide) okX12_settles nok12 w_1823 w_82 w_1821 (by decide +kernel)) (gk107 hG)) <|
  n_c (s_aload_n (pc := 179) (k := 0) (by decide +kernel)) <|
  n_c (s_bipush (pc := 180) (n := 11) (by decide +kernel) (by decide +kernel)) <|
  n_c (s_callVc (s_callV (pc := 182) (csX12_settles N hG) (by decide) okX12_settles nok12 w_1823 w_82 w_1821 (by decide +kernel)) (gk107 hG)) <|
  n_c (s_iload_n (pc := 185) (k := 1) (by decide +kernel)) <|
  n_c (s_if_ne (pc := 186) (off := 5) (by decide +kernel) (by decide +kernel)) <|
  n_c (s_iconst (pc := 189) (n := 0) (by decide +kernel) (by decide +kernel)) <|
  n_c (s_iret (pc := 190) rfl (by decide +kernel)) <|
  n_c (s_aload_n (pc := 191) (k := 0) (by decide +kernel)) <|
  n_c (s_bipush (pc := 192) (n := 41) (by decide +kernel) (by decide +kernel)) <|
  n_c (s_callVc (s_callV (pc := 194) (csX12_isSign hG) (by decide) okX12_isSign nok12 w_1759 w_66 w_1757 (by decide +kernel)) (gk107 hG)) <|
  n_c (s_if_ne (pc := 197) (off := 9) (by decide +kernel) (by decide +kernel)) <|
  n_c (s_aload_n (pc := 200) (k := 0) (by decide +kernel)) <|
  n_c (s_iconst (pc := 201) (n := 1) (by decide +kernel) (by decide +kernel)) <|
  n_c (s_callVc (s_callV (pc := 202) (csX12_errs hG) (by decide) okX12_errs nok12 w_1739 w_61 w_1737 (by decide +kernel)) (gk107 hG)) <|
  n_c (s_iret (pc := 205) rfl (by decide +kernel)) <|
  n_c (s_aload_n (pc := 206) (k := 0) (by decide +kernel)) <|
  n_c (s_aload_n (pc := 207) (k := 0) (by decide +kernel)) <|
  n_c (s_gIc (s_getI (pc := 208) (ci := 12) (k := 32) (idx := 258) nok12 (by decide) rfl (by decide +kernel) w_1439) (gk107 hG)) <|
  n_c (s_iconst (pc := 211) (n := 1) (by decide +kernel) (by decide +kernel)) <|
  n_c (s_isub (pc := 212) (by decide +kernel)) <|
  n_c (s_pIc (s_putI (pc := 213) (ci := 12) (k := 32) (idx := 258) nok12 (by decide) rfl rfl (by decide +kernel) w_1439) (gk107 hG)) <|
  n_c (s_iload_n (pc := 216) (k := 1) (by decide +kernel)) <|
  n_c (s_iconst (pc := 217) (n := 1) (by decide +kernel) (by decide +kernel)) <|
  n_c (s_isub (pc := 218) (by decide +kernel)) <|
  n_c (s_istore_n (pc := 219) (k := 1) (by decide +kernel)) <|
  n_c (s_aload_n (pc := 220) (k := 0) (by decide +kernel)) <|
  n_c (s_aload_n (pc := 221) (k := 0) (by decide +kernel)) <|
  n_c (s_gIc (s_getI (pc := 222) (ci := 12) (k := 30) (idx := 261) nok12 (by decide) rfl (by decide +kernel) w_1437) (gk107 hG)) <|
  n_c (s_iconst (pc := 225) (n := 1) (by decide +kernel) (by decide +kernel)) <|
  n_c (s_isub (pc := 226) (by decide +kernel)) <|
  n_c (s_pIc (s_putI (pc := 227) (ci := 12) (k := 30) (idx := 261) nok12 (by decide) rfl rfl (by decide +kernel) w_1437) (gk107 hG)) <|
  n_c (s_aload_n (pc := 230) (k := 0) (by decide +kernel)) <|
  n_c (s_bipush (pc := 231) (n := 9) (by decide +kernel) (by decide +kernel)) <|
  n_c (s_callVc (s_callV (pc := 233) (csX12_settles N hG) (by decide) okX12_settles nok12 w_1823 w_82 w_1821 (by decide +kernel)) (gk107 hG)) <|
  n_c (s_aload_n (pc := 236) (k := 0) (by decide +kernel)) <|
  n_c (s_callVc (s_callV (pc := 237) (csX12_reads N hG) (by decide) okX12_reads nok12 w_1707 w_53 w_1705 (by decide +kernel)) (gk107 hG)) <|
  n_c (s_goto (pc := 240) (off := -231) (by decide +kernel) (by decide +kernel)) <|
  n_e
def fX12_readAny_78 (N : Nat) (k9 : Int32 → Int32 → nM → Option (Int32 × nM)) (x1 : Int32) (x2 : Int32) (s0 : Int32) (M : nM) : Option (Int32 × nM) :=
  (fX12_waits s0 M).bind fun p1 =>
  (fX12_reads_all N p1.2).bind fun p2 =>
  k9 x1 x2 p2.2
set_option maxRecDepth 200000 in
theorem bX12_readAny_78 {l : Launch} {w : nW} (N : Nat) {G : nG} (hG : n_GOK G) (k9 : Int32 → Int32 → nM → Option (Int32 × nM)) (hk9 : ∀ (x1 : Int32) (x2 : Int32) (M : nM) (r : Int32 × nM), k9 x1 x2 M = some r → n_At l w 7 mX12_readAny 9 [(0, .ref 107), (1, .int x1), (2, .int x2)] [] (G, M) (dv_i r.1, (G, r.2))) (x1 : Int32) (x2 : Int32) (s0 : Int32) (M : nM) (r : Int32 × nM) (h : fX12_readAny_78 N k9 x1 x2 s0 M = some r) : n_At l w 7 mX12_readAny 78 [(0, .ref 107), (1, .int x1), (2, .int x2)] [.int s0, .ref 107] (G, M) (dv_i r.1, (G, r.2)) :=
  n_seg (fin := n_fin dv_i G) (K := [(9, fun lv st M => n_lC 107 lv 0 (n_lI lv 1 (fun x1 => n_lI lv 2 (fun x2 => n_pE st (k9 x1 x2 M)))))]) 7 (iX12_readAny N hG) (n_kc (fun lv st M r h => by
      obtain ⟨e0, h1⟩ := n_lC_x h
      obtain ⟨x1, e1, h2⟩ := n_lI_x h1
      obtain ⟨x2, e2, h3⟩ := n_lI_x h2
      obtain ⟨rfl, h4⟩ := n_pE_x h3
      exact n_sub (n_qc e0 (n_qc e1 (n_qc e2 n_qe))) (hk9 x1 x2 M r h4)) n_ke) (by rfl) h
def fX12_readAny_66 (N : Nat) (k9 : Int32 → Int32 → nM → Option (Int32 × nM)) (x1 : Int32) (x2 : Int32) (x3 : Int32) (M : nM) : Option (Int32 × nM) :=
  if x3 = 0 then
    fX12_readAny_78 N k9 x1 x2 (12 : Int32) M
  else
    fX12_readAny_78 N k9 x1 x2 (9 : Int32) M
set_option maxRecDepth 200000 in
theorem bX12_readAny_66 {l : Launch} {w : nW} (N : Nat) {G : nG} (hG : n_GOK G) (k9 : Int32 → Int32 → nM → Option (Int32 × nM)) (hk9 : ∀ (x1 : Int32) (x2 : Int32) (M : nM) (r : Int32 × nM), k9 x1 x2 M = some r → n_At l w 7 mX12_readAny 9 [(0, .ref 107), (1, .int x1), (2, .int x2)] [] (G, M) (dv_i r.1, (G, r.2))) (x1 : Int32) (x2 : Int32) (x3 : Int32) (M : nM) (r : Int32 × nM) (h : fX12_readAny_66 N k9 x1 x2 x3 M = some r) : n_At l w 7 mX12_readAny 66 [(0, .ref 107), (1, .int x1), (2, .int x2), (3, .int x3)] [] (G, M) (dv_i r.1, (G, r.2)) :=
  n_seg (fin := n_fin dv_i G) (K := [(78, fun lv st M => n_lC 107 lv 0 (n_lI lv 1 (fun x1 => n_lI lv 2 (fun x2 => n_pI st (fun s0 st => n_pC 107 st (fun st => n_pE st (fX12_readAny_78 N k9 x1 x2 s0 M)))))))]) 9 (iX12_readAny N hG) (n_kc (fun lv st M r h => by
      obtain ⟨e0, h1⟩ := n_lC_x h
      obtain ⟨x1, e1, h2⟩ := n_lI_x h1
      obtain ⟨x2, e2, h3⟩ := n_lI_x h2
      obtain ⟨s0, t0, rfl, h4⟩ := n_pI_x h3
      obtain ⟨t1, rfl, h5⟩ := n_pC_x h4
      obtain ⟨rfl, h6⟩ := n_pE_x h5
      exact n_sub (n_qc e0 (n_qc e1 (n_qc e2 n_qe))) (bX12_readAny_78 N hG k9 hk9 x1 x2 s0 M r h6)) n_ke) (by rfl) h
def fX12_readAny_33 (N : Nat) (k9 : Int32 → Int32 → nM → Option (Int32 × nM)) (x1 : Int32) (x2 : Int32) (x3 : Int32) (M : nM) : Option (Int32 × nM) :=
  if ¬ (M 107 30) = (8 : Int32) then
    let M1 : nM := n_up M 107 30 ((M 107 30) + (1 : Int32))
    if ¬ x3 = 0 then
      fX12_readAny_66 N k9 x1 x2 x3 M1
    else
      let v2 : Int32 := (x1 + (1 : Int32))
      fX12_readAny_66 N k9 v2 x2 x3 M1
  else
    (fX12_errs (3 : Int32) M).bind fun p3 =>
    some (p3.1, p3.2)
set_option maxRecDepth 200000 in
theorem bX12_readAny_33 {l : Launch} {w : nW} (N : Nat) {G : nG} (hG : n_GOK G) (k9 : Int32 → Int32 → nM → Option (Int32 × nM)) (hk9 : ∀ (x1 : Int32) (x2 : Int32) (M : nM) (r : Int32 × nM), k9 x1 x2 M = some r → n_At l w 7 mX12_readAny 9 [(0, .ref 107), (1, .int x1), (2, .int x2)] [] (G, M) (dv_i r.1, (G, r.2))) (x1 : Int32) (x2 : Int32) (x3 : Int32) (M : nM) (r : Int32 × nM) (h : fX12_readAny_33 N k9 x1 x2 x3 M = some r) : n_At l w 7 mX12_readAny 33 [(0, .ref 107), (1, .int x1), (2, .int x2), (3, .int x3)] [] (G, M) (dv_i r.1, (G, r.2)) :=
  n_seg (fin := n_fin dv_i G) (K := [(66, fun lv st M => n_lC 107 lv 0 (n_lI lv 1 (fun x1 => n_lI lv 2 (fun x2 => n_lI lv 3 (fun x3 => n_pE st (fX12_readAny_66 N k9 x1 x2 x3 M))))))]) 23 (iX12_readAny N hG) (n_kc (fun lv st M r h => by
      obtain ⟨e0, h1⟩ := n_lC_x h
      obtain ⟨x1, e1, h2⟩ := n_lI_x h1
      obtain ⟨x2, e2, h3⟩ := n_lI_x h2
      obtain ⟨x3, e3, h4⟩ := n_lI_x h3
      obtain ⟨rfl, h5⟩ := n_pE_x h4
      exact n_sub (n_qc e0 (n_qc e1 (n_qc e2 (n_qc e3 n_qe)))) (bX12_readAny_66 N hG k9 hk9 x1 x2 x3 M r h5)) n_ke) (by rfl) h
def fX12_readAny_9 (N : Nat) : Nat → Int32 → Int32 → nM → Option (Int32 × nM)
  | 0, _, _, _ => none
  | n + 1, x1, x2, M =>
    if x2 = 0 then
      (fX12_isWord (5 : Int32) M).bind fun p1 =>
      if p1.1 = 0 then
        (fX12_isWord (4 : Int32) p1.2).bind fun p2 =>
        if p2.1 = 0 then
          (fX12_settles_all N (10 : Int32) p2.2).bind fun p3 =>
          (fX12_settles_all N (11 : Int32) p3.2).bind fun p4 =>
          if ¬ x1 = 0 then
            (fX12_isSign (41 : Int32) p4.2).bind fun p5 =>
            if ¬ p5.1 = 0 then
              let M6 : nM := n_up p5.2 107 32 ((p5.2 107 32) - (1 : Int32))
              let v7 : Int32 := (x1 - (1 : Int32))
              let M8 : nM := n_up M6 107 30 ((M6 107 30) - (1 : Int32))
              (fX12_settles_all N (9 : Int32) M8).bind fun p9 =>
              (fX12_reads_all N p9.2).bind fun p10 =>
              fX12_readAny_9 N n v7 x2 p10.2
            else
              (fX12_errs (1 : Int32) p5.2).bind fun p11 =>
              some (p11.1, p11.2)
          else
            some ((0 : Int32), p4.2)
        else
          (fX12_settles_all N (10 : Int32) p2.2).bind fun p12 =>
          (fX12_settles_all N (11 : Int32) p12.2).bind fun p13 =>
          (fX12_waits (11 : Int32) p13.2).bind fun p14 =>
          (fX12_reads_all N p14.2).bind fun p15 =>
          fX12_readAny_9 N n x1 (1 : Int32) p15.2
      else
        (fX12_settles_all N (10 : Int32) p1.2).bind fun p16 =>
        (fX12_waits (10 : Int32) p16.2).bind fun p17 =>
        (fX12_reads_all N p17.2).bind fun p18 =>
        fX12_readAny_9 N n x1 (1 : Int32) p18.2
    else
      (fX12_isWord (6 : Int32) M).bind fun p19 =>
      if ¬ p19.1 = 0 then
        fX12_readAny_33 N (fun x1 x2 M => fX12_readAny_9 N n x1 x2 M) x1 x2 p19.1 p19.2
      else
        (fX12_isSign (40 : Int32) p19.2).bind fun p20 =>
        if p20.1 = 0 then
          (fX12_readCompared N p20.2).bind fun p21 =>
          if ¬ p21.1 = (-1 : Int32) then
            (fX12_settles_all N (9 : Int32) p21.2).bind fun p22 =>
            fX12_readAny_9 N n x1 (0 : Int32) p22.2
          else
            some ((-1 : Int32), p21.2)
        else
          fX12_readAny_33 N (fun x1 x2 M => fX12_readAny_9 N n x1 x2 M) x1 x2 p19.1 p20.2
set_option maxRecDepth 200000 in
theorem bX12_readAny_9 {l : Launch} {w : nW} (N : Nat) {G : nG} (hG : n_GOK G) : ∀ (n : Nat) (x1 : Int32) (x2 : Int32) (M : nM) (r : Int32 × nM), fX12_readAny_9 N n x1 x2 M = some r → n_At l w 7 mX12_readAny 9 [(0, .ref 107), (1, .int x1), (2, .int x2)] [] (G, M) (dv_i r.1, (G, r.2)) := by
  intro n
  induction n with
  | zero => intro x1 x2 M r h; cases (show (none : Option (Int32 × nM)) = some r from h)
  | succ n ih =>
    intro x1 x2 M r h
    exact n_seg (fin := n_fin dv_i G) (K := [(9, fun lv st M => n_lC 107 lv 0 (n_lI lv 1 (fun x1 => n_lI lv 2 (fun x2 => n_pE st (fX12_readAny_9 N n x1 x2 M))))), (33, fun lv st M => n_lC 107 lv 0 (n_lI lv 1 (fun x1 => n_lI lv 2 (fun x2 => n_lI lv 3 (fun x3 => n_pE st (fX12_readAny_33 N (fun x1 x2 M => fX12_readAny_9 N n x1 x2 M) x1 x2 x3 M))))))]) 100 (iX12_readAny N hG) (n_kc (fun lv st M r h => by
      obtain ⟨e0, h1⟩ := n_lC_x h
      obtain ⟨x1, e1, h2⟩ := n_lI_x h1
      obtain ⟨x2, e2, h3⟩ := n_lI_x h2
      obtain ⟨rfl, h4⟩ := n_pE_x h3
      exact n_sub (n_qc e0 (n_qc e1 (n_qc e2 n_qe))) (ih x1 x2 M r h4)) (n_kc (fun lv st M r h => by
      obtain ⟨e0, h1⟩ := n_lC_x h
      obtain ⟨x1, e1, h2⟩ := n_lI_x h1
      obtain ⟨x2, e2, h3⟩ := n_lI_x h2
      obtain ⟨x3, e3, h4⟩ := n_lI_x h3
      obtain ⟨rfl, h5⟩ := n_pE_x h4
      exact n_sub (n_qc e0 (n_qc e1 (n_qc e2 (n_qc e3 n_qe)))) (bX12_readAny_33 N hG (fun x1 x2 M => fX12_readAny_9 N n x1 x2 M) ih x1 x2 x3 M r h5)) n_ke)) (by rfl) h
def fX12_readAny (N : Nat) (M : nM) : Option (Int32 × nM) :=
  let M1 : nM := n_up M 107 32 (0 : Int32)
  fX12_readAny_9 N N (0 : Int32) (1 : Int32) M1
set_option maxRecDepth 200000 in
theorem bX12_readAny_0 {l : Launch} {w : nW} (N : Nat) {G : nG} (hG : n_GOK G) (M : nM) (r : Int32 × nM) (h : fX12_readAny N M = some r) : n_At l w 7 mX12_readAny 0 [(0, .ref 107)] [] (G, M) (dv_i r.1, (G, r.2)) :=
  n_seg (fin := n_fin dv_i G) (K := [(9, fun lv st M => n_lC 107 lv 0 (n_lI lv 1 (fun x1 => n_lI lv 2 (fun x2 => n_pE st (fX12_readAny_9 N N x1 x2 M)))))]) 10 (iX12_readAny N hG) (n_kc (fun lv st M r h => by
      obtain ⟨e0, h1⟩ := n_lC_x h
      obtain ⟨x1, e1, h2⟩ := n_lI_x h1
      obtain ⟨x2, e2, h3⟩ := n_lI_x h2
      obtain ⟨rfl, h4⟩ := n_pE_x h3
      exact n_sub (n_qc e0 (n_qc e1 (n_qc e2 n_qe))) (bX12_readAny_9 N hG N x1 x2 M r h4)) n_ke) (by rfl) h
theorem eX12_readAny {l : Launch} {w : nW} (N : Nat) {G : nG} (hG : n_GOK G) (M : nM) (r : Int32 × nM) (h : fX12_readAny N M = some r) : n_Met l w 7 mX12_readAny [.ref 107] (G, M) (dv_i r.1, (G, r.2)) :=
  n_entry (by decide +kernel) rfl (Nat.le_of_ble_eq_true rfl) (n_sub (lv := [(0, .ref 107)]) (n_qc rfl n_qe) (bX12_readAny_0 N hG M r h))
abbrev hX12_readAny (N : Nat) : nF := fun T as M k => n_pC 107 as (fun as => n_pE as ((fX12_readAny N M).bind fun p => k (dv_i p.1) p.2))
theorem csX12_readAny {l : Launch} {w : nW} (N : Nat) {G : nG} (hG : n_GOK G) : n_CS l w 7 mX12_readAny G (hX12_readAny N) := fun T as M k r h => by
  obtain ⟨t0, rfl, h1⟩ := n_pC_x h
  obtain ⟨rfl, hE⟩ := n_pE_x h1
  obtain ⟨p, hp, hk⟩ := Option.bind_eq_some_iff.mp hE
  exact ⟨_, _, eX12_readAny N hG M p hp, hk⟩
/-! ===== SleightHouseModel.readLaw()I ===== -/
def mX12_readLaw : nY := (RX12, yX12_readLaw, cX12_readLaw, 3, some .int)
theorem okX12_readLaw : n_MOK mX12_readLaw 0 := ⟨w_1784, w_151, ⟨by decide +kernel, by decide +kernel, by decide +kernel⟩, by decide⟩
abbrev aX12_readLaw (N : Nat) : List (Nat × nO (Int32 × nM)) := [(0, o_push (.int (0 : Int32)) 1), (1, o_istore 3 1 2), (2, o_aload 0 3), (3, o_callVc 107 0 (hX12_isLineWord) 6), (6, oi_eq 128 9), (9, o_iload 1 10), (10, o_push (.int (16 : Int32)) 12), (12, oc_ne 21 15), (15, o_aload 0 16), (16, o_push (.int (3 : Int32)) 17), (17, o_callVc 107 1 (hX12_errs) 20), (20, o_iret), (21, o_push (.int (32 : Int32)) 23), (23, o_iload 1 24), (24, o_iadd 25), (25, o_istore 3 2 26), (26, o_aload 0 27), (27, o_gRc 107 120 30), (30, o_iload 2 31), (31, o_aload 0 32), (32, o_gIc 107 19 35), (35, o_iastc 120 48 36), (36, o_aload 0 37), (37, o_callVc 107 0 (hX12_reads N) 40), (40, o_aload 0 41), (41, o_gRc 107 121 44), (44, o_iload 2 45), (45, o_aload 0 46), (46, o_gIc 107 29 49), (49, o_iastc 121 48 50), (50, o_aload 0 51), (51, o_callVc 107 0 (hX12_readSum N) 54), (54, o_push (.int (-1 : Int32)) 55), (55, oc_ne 60 58), (58, o_push (.int (-1 : Int32)) 59), (59, o_iret), (60, o_aload 0 61), (61, o_gRc 107 122 64), (64, o_iload 2 65), (65, o_aload 0 66), (66, o_gIc 107 29 69), (69, o_iastc 122 48 70), (70, o_aload 0 71), (71, o_push (.int (3 : Int32)) 72), (72, o_callVc 107 1 (hX12_isWord) 75), (75, oi_eq 92 78), (78, o_aload 0 79), (79, o_callVc 107 0 (hX12_reads N) 82), (82, o_aload 0 83), (83, o_callVc 107 0 (hX12_readAny N) 86), (86, o_push (.int (-1 : Int32)) 87), (87, oc_ne 92 90), (90, o_push (.int (-1 : Int32)) 91), (91, o_iret), (92, o_aload 0 93), (93, o_gRc 107 123 96), (96, o_iload 2 97), (97, o_aload 0 98), (98, o_gIc 107 29 101), (101, o_iastc 123 48 102), (102, o_aload 0 103), (103, o_push (.int (59 : Int32)) 105), (105, o_callVc 107 1 (hX12_isSign) 108), (108, oi_ne 117 111), (111, o_aload 0 112), (112, o_push (.int (1 : Int32)) 113), (113, o_callVc 107 1 (hX12_errs) 116), (116, o_iret), (117, o_aload 0 118), (118, o_callVc 107 0 (hX12_reads N) 121), (121, o_iload 1 122), (122, o_push (.int (1 : Int32)) 123), (123, o_iadd 124), (124, o_istore 3 1 125), (125, o_goto 2), (128, o_aload 0 129), (129, o_gIc 107 18 132), (132, oi_ne 139 135), (135, o_iload 1 136), (136, o_goto 144), (139, o_aload 0 140), (140, o_push (.int (1 : Int32)) 141), (141, o_callVc 107 1 (hX12_errs) 144), (144, o_iret)]
set_option maxRecDepth 200000 in
theorem iX12_readLaw {l : Launch} {w : nW} (N : Nat) {G : nG} (hG : n_GOK G) : n_AllS l w 8 mX12_readLaw G (n_fin dv_i G) (aX12_readLaw N) :=
  n_c (s_iconst (pc := 0) (n := 0) (by decide +kernel) (by decide +kernel)) <|
  n_c (s_istore_n (pc := 1) (k := 1) (by decide +kernel)) <|
  n_c (s_aload_n (pc := 2) (k := 0) (by decide +kernel)) <|
  n_c (s_callVc (s_callV (pc := 3) (csX12_isLineWord hG) (by decide) okX12_isLineWord nok12 w_1787 w_73 w_1785 (by decide +kernel)) (gk107 hG)) <|
  n_c (s_if_eq (pc := 6) (off := 122) (by decide +kernel) (by decide +kernel)) <|
  n_c (s_iload_n (pc := 9) (k := 1) (by decide +kernel)) <|
  n_c (s_bipush (pc := 10) (n := 16) (by decide +kernel) (by decide +kernel)) <|
  n_c (s_icmp_ne (pc := 12) (off := 9) (by decide +kernel) (by decide +kernel)) <|
  n_c (s_aload_n (pc := 15) (k := 0) (by decide +kernel)) <|
  n_c (s_iconst (pc := 16) (n := 3) (by decide +kernel) (by decide +kernel)) <|
  n_c (s_callVc (s_callV (pc := 17) (csX12_errs hG) (by decide) okX12_errs nok12 w_1739 w_61 w_1737 (by decide +kernel)) (gk107 hG)) <|
  n_c (s_iret (pc := 20) rfl (by decide +kernel)) <|
  n_c (s_bipush (pc := 21) (n := 32) (by decide +kernel) (by decide +kernel)) <|
  n_c (s_iload_n (pc := 23) (k := 1) (by decide +kernel)) <|
  n_c (s_iadd (pc := 24) (by decide +kernel)) <|
  n_c (s_istore_n (pc := 25) (k := 2) (by decide +kernel)) <|
  n_c (s_aload_n (pc := 26) (k := 0) (by decide +kernel)) <|
  n_c (s_gRc (s_getR (pc := 27) (ci := 12) (k := 22) (idx := 46) nok12 (by decide) rfl (by decide +kernel) w_1429) (gk107 hG) (gm107_22 hG)) <|
  n_c (s_iload_n (pc := 30) (k := 2) (by decide +kernel)) <|
  n_c (s_aload_n (pc := 31) (k := 0) (by decide +kernel)) <|
  n_c (s_gIc (s_getI (pc := 32) (ci := 12) (k := 19) (idx := 207) nok12 (by decide) rfl (by decide +kernel) w_1426) (gk107 hG)) <|
  n_c (s_iastc (s_iastore (pc := 35) (by decide +kernel)) (gk120 hG) (gl120 hG)) <|
  n_c (s_aload_n (pc := 36) (k := 0) (by decide +kernel)) <|
  n_c (s_callVc (s_callV (pc := 37) (csX12_reads N hG) (by decide) okX12_reads nok12 w_1707 w_53 w_1705 (by decide +kernel)) (gk107 hG)) <|
  n_c (s_aload_n (pc := 40) (k := 0) (by decide +kernel)) <|
  n_c (s_gRc (s_getR (pc := 41) (ci := 12) (k := 23) (idx := 49) nok12 (by decide) rfl (by decide +kernel) w_1430) (gk107 hG) (gm107_23 hG)) <|
  n_c (s_iload_n (pc := 44) (k := 2) (by decide +kernel)) <|
  n_c (s_aload_n (pc := 45) (k := 0) (by decide +kernel)) <|
  n_c (s_gIc (s_getI (pc := 46) (ci := 12) (k := 29) (idx := 229) nok12 (by decide) rfl (by decide +kernel) w_1436) (gk107 hG)) <|
  n_c (s_iastc (s_iastore (pc := 49) (by decide +kernel)) (gk121 hG) (gl121 hG)) <|
  n_c (s_aload_n (pc := 50) (k := 0) (by decide +kernel)) <|
  n_c (s_callVc (s_callV (pc := 51) (csX12_readSum N hG) (by decide) okX12_readSum nok12 w_1791 w_74 w_1789 (by decide +kernel)) (gk107 hG)) <|
  n_c (s_iconst (pc := 54) (n := -1) (by decide +kernel) (by decide +kernel)) <|
  n_c (s_icmp_ne (pc := 55) (off := 5) (by decide +kernel) (by decide +kernel)) <|
  n_c (s_iconst (pc := 58) (n := -1) (by decide +kernel) (by decide +kernel)) <|
  n_c (s_iret (pc := 59) rfl (by decide +kernel)) <|
  n_c (s_aload_n (pc := 60) (k := 0) (by decide +kernel)) <|
  n_c (s_gRc (s_getR (pc := 61) (ci := 12) (k := 24) (idx := 52) nok12 (by decide) rfl (by decide +kernel) w_1431) (gk107 hG) (gm107_24 hG)) <|
  n_c (s_iload_n (pc := 64) (k := 2) (by decide +kernel)) <|
  n_c (s_aload_n (pc := 65) (k := 0) (by decide +kernel)) <|
  n_c (s_gIc (s_getI (pc := 66) (ci := 12) (k := 29) (idx := 229) nok12 (by decide) rfl (by decide +kernel) w_1436) (gk107 hG)) <|
  n_c (s_iastc (s_iastore (pc := 69) (by decide +kernel)) (gk122 hG) (gl122 hG)) <|
  n_c (s_aload_n (pc := 70) (k := 0) (by decide +kernel)) <|
  n_c (s_iconst (pc := 71) (n := 3) (by decide +kernel) (by decide +kernel)) <|
  n_c (s_callVc (s_callV (pc := 72) (csX12_isWord hG) (by decide) okX12_isWord nok12 w_1735 w_60 w_1733 (by decide +kernel)) (gk107 hG)) <|
  n_c (s_if_eq (pc := 75) (off := 17) (by decide +kernel) (by decide +kernel)) <|
  n_c (s_aload_n (pc := 78) (k := 0) (by decide +kernel)) <|
  n_c (s_callVc (s_callV (pc := 79) (csX12_reads N hG) (by decide) okX12_reads nok12 w_1707 w_53 w_1705 (by decide +kernel)) (gk107 hG)) <|
  n_c (s_aload_n (pc := 82) (k := 0) (by decide +kernel)) <|
  n_c (s_callVc (s_callV (pc := 83) (csX12_readAny N hG) (by decide) okX12_readAny nok12 w_1811 w_79 w_1809 (by decide +kernel)) (gk107 hG)) <|
  n_c (s_iconst (pc := 86) (n := -1) (by decide +kernel) (by decide +kernel)) <|
  n_c (s_icmp_ne (pc := 87) (off := 5) (by decide +kernel) (by decide +kernel)) <|
  n_c (s_iconst (pc := 90) (n := -1) (by decide +kernel) (by decide +kernel)) <|
  n_c (s_iret (pc := 91) rfl (by decide +kernel)) <|
  n_c (s_aload_n (pc := 92) (k := 0) (by decide +kernel)) <|
  n_c (s_gRc (s_getR (pc := 93) (ci := 12) (k := 25) (idx := 55) nok12 (by decide) rfl (by decide +kernel) w_1432) (gk107 hG) (gm107_25 hG)) <|
  n_c (s_iload_n (pc := 96) (k := 2) (by decide +kernel)) <|
  n_c (s_aload_n (pc := 97) (k := 0) (by decide +kernel)) <|
  n_c (s_gIc (s_getI (pc := 98) (ci := 12) (k := 29) (idx := 229) nok12 (by decide) rfl (by decide +kernel) w_1436) (gk107 hG)) <|
  n_c (s_iastc (s_iastore (pc := 101) (by decide +kernel)) (gk123 hG) (gl123 hG)) <|
  n_c (s_aload_n (pc := 102) (k := 0) (by decide +kernel)) <|
  n_c (s_bipush (pc := 103) (n := 59) (by decide +kernel) (by decide +kernel)) <|
  n_c (s_callVc (s_callV (pc := 105) (csX12_isSign hG) (by decide) okX12_isSign nok12 w_1759 w_66 w_1757 (by decide +kernel)) (gk107 hG)) <|
  n_c (s_if_ne (pc := 108) (off := 9) (by decide +kernel) (by decide +kernel)) <|
  n_c (s_aload_n (pc := 111) (k := 0) (by decide +kernel)) <|
  n_c (s_iconst (pc := 112) (n := 1) (by decide +kernel) (by decide +kernel)) <|
  n_c (s_callVc (s_callV (pc := 113) (csX12_errs hG) (by decide) okX12_errs nok12 w_1739 w_61 w_1737 (by decide +kernel)) (gk107 hG)) <|
  n_c (s_iret (pc := 116) rfl (by decide +kernel)) <|
  n_c (s_aload_n (pc := 117) (k := 0) (by decide +kernel)) <|
  n_c (s_callVc (s_callV (pc := 118) (csX12_reads N hG) (by decide) okX12_reads nok12 w_1707 w_53 w_1705 (by decide +kernel)) (gk107 hG)) <|
  n_c (s_iload_n (pc := 121) (k := 1) (by decide +kernel)) <|
  n_c (s_iconst (pc := 122) (n := 1) (by decide +kernel) (by decide +kernel)) <|
  n_c (s_iadd (pc := 123) (by decide +kernel)) <|
  n_c (s_istore_n (pc := 124) (k := 1) (by decide +kernel)) <|
  n_c (s_goto (pc := 125) (off := -123) (by decide +kernel) (by decide +kernel)) <|
  n_c (s_aload_n (pc := 128) (k := 0) (by decide +kernel)) <|
  n_c (s_gIc (s_getI (pc := 129) (ci := 12) (k := 18) (idx := 204) nok12 (by decide) rfl (by decide +kernel) w_1425) (gk107 hG)) <|
  n_c (s_if_ne (pc := 132) (off := 7) (by decide +kernel) (by decide +kernel)) <|
  n_c (s_iload_n (pc := 135) (k := 1) (by decide +kernel)) <|
  n_c (s_goto (pc := 136) (off := 8) (by decide +kernel) (by decide +kernel)) <|
  n_c (s_aload_n (pc := 139) (k := 0) (by decide +kernel)) <|
  n_c (s_iconst (pc := 140) (n := 1) (by decide +kernel) (by decide +kernel)) <|
  n_c (s_callVc (s_callV (pc := 141) (csX12_errs hG) (by decide) okX12_errs nok12 w_1739 w_61 w_1737 (by decide +kernel)) (gk107 hG)) <|
  n_c (s_iret (pc := 144) rfl (by decide +kernel)) <|
  n_e
def fX12_readLaw_92 (N : Nat) (k2 : Int32 → nM → Option (Int32 × nM)) (x1 : Int32) (x2 : Int32) (M : nM) : Option (Int32 × nM) :=
  n_chk (n_ib 48 x2) <|
  let M1 : nM := n_up M 123 x2.toNatClampNeg (M 107 29)
  (fX12_isSign (59 : Int32) M1).bind fun p2 =>
  if ¬ p2.1 = 0 then
    (fX12_reads_all N p2.2).bind fun p3 =>
    let v4 : Int32 := (x1 + (1 : Int32))
    k2 v4 p3.2
  else
    (fX12_errs (1 : Int32) p2.2).bind fun p5 =>
    some (p5.1, p5.2)
set_option maxRecDepth 200000 in
theorem bX12_readLaw_92 {l : Launch} {w : nW} (N : Nat) {G : nG} (hG : n_GOK G) (k2 : Int32 → nM → Option (Int32 × nM)) (hk2 : ∀ (x1 : Int32) (M : nM) (r : Int32 × nM), k2 x1 M = some r → n_At l w 8 mX12_readLaw 2 [(0, .ref 107), (1, .int x1)] [] (G, M) (dv_i r.1, (G, r.2))) (x1 : Int32) (x2 : Int32) (M : nM) (r : Int32 × nM) (h : fX12_readLaw_92 N k2 x1 x2 M = some r) : n_At l w 8 mX12_readLaw 92 [(0, .ref 107), (1, .int x1), (2, .int x2)] [] (G, M) (dv_i r.1, (G, r.2)) :=
  n_seg (fin := n_fin dv_i G) (K := [(2, fun lv st M => n_lC 107 lv 0 (n_lI lv 1 (fun x1 => n_pE st (k2 x1 M))))]) 24 (iX12_readLaw N hG) (n_kc (fun lv st M r h => by
      obtain ⟨e0, h1⟩ := n_lC_x h
      obtain ⟨x1, e1, h2⟩ := n_lI_x h1
      obtain ⟨rfl, h3⟩ := n_pE_x h2
      exact n_sub (n_qc e0 (n_qc e1 n_qe)) (hk2 x1 M r h3)) n_ke) (by rfl) h
def fX12_readLaw_2 (N : Nat) : Nat → Int32 → nM → Option (Int32 × nM)
  | 0, _, _ => none
  | n + 1, x1, M =>
    (fX12_isLineWord M).bind fun p1 =>
    if p1.1 = 0 then
      if ¬ (p1.2 107 18) = 0 then
        (fX12_errs (1 : Int32) p1.2).bind fun p2 =>
        some (p2.1, p2.2)
      else
        some (x1, p1.2)
    else
      if ¬ x1 = (16 : Int32) then
        let v3 : Int32 := ((32 : Int32) + x1)
        n_chk (n_ib 48 v3) <|
        let M4 : nM := n_up p1.2 120 v3.toNatClampNeg (p1.2 107 19)
        (fX12_reads_all N M4).bind fun p5 =>
        n_chk (n_ib 48 v3) <|
        let M6 : nM := n_up p5.2 121 v3.toNatClampNeg (p5.2 107 29)
        (fX12_readSum N M6).bind fun p7 =>
        if ¬ p7.1 = (-1 : Int32) then
          n_chk (n_ib 48 v3) <|
          let M8 : nM := n_up p7.2 122 v3.toNatClampNeg (p7.2 107 29)
          (fX12_isWord (3 : Int32) M8).bind fun p9 =>
          if p9.1 = 0 then
            fX12_readLaw_92 N (fun x1 M => fX12_readLaw_2 N n x1 M) x1 v3 p9.2
          else
            (fX12_reads_all N p9.2).bind fun p10 =>
            (fX12_readAny N p10.2).bind fun p11 =>
            if ¬ p11.1 = (-1 : Int32) then
              fX12_readLaw_92 N (fun x1 M => fX12_readLaw_2 N n x1 M) x1 v3 p11.2
            else
              some ((-1 : Int32), p11.2)
        else
          some ((-1 : Int32), p7.2)
      else
        (fX12_errs (3 : Int32) p1.2).bind fun p12 =>
        some (p12.1, p12.2)
set_option maxRecDepth 200000 in
theorem bX12_readLaw_2 {l : Launch} {w : nW} (N : Nat) {G : nG} (hG : n_GOK G) : ∀ (n : Nat) (x1 : Int32) (M : nM) (r : Int32 × nM), fX12_readLaw_2 N n x1 M = some r → n_At l w 8 mX12_readLaw 2 [(0, .ref 107), (1, .int x1)] [] (G, M) (dv_i r.1, (G, r.2)) := by
  intro n
  induction n with
  | zero => intro x1 M r h; cases (show (none : Option (Int32 × nM)) = some r from h)
  | succ n ih =>
    intro x1 M r h
    exact n_seg (fin := n_fin dv_i G) (K := [(92, fun lv st M => n_lC 107 lv 0 (n_lI lv 1 (fun x1 => n_lI lv 2 (fun x2 => n_pE st (fX12_readLaw_92 N (fun x1 M => fX12_readLaw_2 N n x1 M) x1 x2 M)))))]) 65 (iX12_readLaw N hG) (n_kc (fun lv st M r h => by
      obtain ⟨e0, h1⟩ := n_lC_x h
      obtain ⟨x1, e1, h2⟩ := n_lI_x h1
      obtain ⟨x2, e2, h3⟩ := n_lI_x h2
      obtain ⟨rfl, h4⟩ := n_pE_x h3
      exact n_sub (n_qc e0 (n_qc e1 (n_qc e2 n_qe))) (bX12_readLaw_92 N hG (fun x1 M => fX12_readLaw_2 N n x1 M) ih x1 x2 M r h4)) n_ke) (by rfl) h
def fX12_readLaw (N : Nat) (M : nM) : Option (Int32 × nM) :=
  fX12_readLaw_2 N N (0 : Int32) M
set_option maxRecDepth 200000 in
theorem bX12_readLaw_0 {l : Launch} {w : nW} (N : Nat) {G : nG} (hG : n_GOK G) (M : nM) (r : Int32 × nM) (h : fX12_readLaw N M = some r) : n_At l w 8 mX12_readLaw 0 [(0, .ref 107)] [] (G, M) (dv_i r.1, (G, r.2)) :=
  n_seg (fin := n_fin dv_i G) (K := [(2, fun lv st M => n_lC 107 lv 0 (n_lI lv 1 (fun x1 => n_pE st (fX12_readLaw_2 N N x1 M))))]) 5 (iX12_readLaw N hG) (n_kc (fun lv st M r h => by
      obtain ⟨e0, h1⟩ := n_lC_x h
      obtain ⟨x1, e1, h2⟩ := n_lI_x h1
      obtain ⟨rfl, h3⟩ := n_pE_x h2
      exact n_sub (n_qc e0 (n_qc e1 n_qe)) (bX12_readLaw_2 N hG N x1 M r h3)) n_ke) (by rfl) h
theorem eX12_readLaw {l : Launch} {w : nW} (N : Nat) {G : nG} (hG : n_GOK G) (M : nM) (r : Int32 × nM) (h : fX12_readLaw N M = some r) : n_Met l w 8 mX12_readLaw [.ref 107] (G, M) (dv_i r.1, (G, r.2)) :=
  n_entry (by decide +kernel) rfl (Nat.le_of_ble_eq_true rfl) (n_sub (lv := [(0, .ref 107)]) (n_qc rfl n_qe) (bX12_readLaw_0 N hG M r h))
abbrev hX12_readLaw (N : Nat) : nF := fun T as M k => n_pC 107 as (fun as => n_pE as ((fX12_readLaw N M).bind fun p => k (dv_i p.1) p.2))
theorem csX12_readLaw {l : Launch} {w : nW} (N : Nat) {G : nG} (hG : n_GOK G) : n_CS l w 8 mX12_readLaw G (hX12_readLaw N) := fun T as M k r h => by
  obtain ⟨t0, rfl, h1⟩ := n_pC_x h
  obtain ⟨rfl, hE⟩ := n_pE_x h1
  obtain ⟨p, hp, hk⟩ := Option.bind_eq_some_iff.mp hE
  exact ⟨_, _, eX12_readLaw N hG M p hp, hk⟩
/-! ===== SleightHouseModel.readsText(I)I ===== -/
def mX12_readsText : nY := (RX12, yX12_readsText, cX12_readsText, 2, some .int)
theorem okX12_readsText : n_MOK mX12_readsText 1 := ⟨w_1704, w_151, ⟨by decide +kernel, by decide +kernel, by decide +kernel⟩, by decide⟩
abbrev aX12_readsText (N : Nat) : List (Nat × nO (Int32 × nM)) := [(0, o_aload 0 1), (1, o_push (.int (0 : Int32)) 2), (2, o_pIc 107 28 5), (5, o_aload 0 6), (6, o_callVc 107 0 (hX12_reads N) 9), (9, o_iload 1 10), (10, o_push (.int (1 : Int32)) 11), (11, oc_ne 19 14), (14, o_aload 0 15), (15, o_callVc 107 0 (hX12_readSupper N) 18), (18, o_iret), (19, o_iload 1 20), (20, o_push (.int (2 : Int32)) 21), (21, oc_ne 29 24), (24, o_aload 0 25), (25, o_callVc 107 0 (hX12_readCustoms N) 28), (28, o_iret), (29, o_iload 1 30), (30, o_push (.int (3 : Int32)) 31), (31, oc_ne 41 34), (34, o_aload 0 35), (35, o_callVc 107 0 (hX12_readLine N) 38), (38, o_goto 45), (41, o_aload 0 42), (42, o_callVc 107 0 (hX12_readLaw N) 45), (45, o_iret)]
set_option maxRecDepth 200000 in
theorem iX12_readsText {l : Launch} {w : nW} (N : Nat) {G : nG} (hG : n_GOK G) : n_AllS l w 9 mX12_readsText G (n_fin dv_i G) (aX12_readsText N) :=
  n_c (s_aload_n (pc := 0) (k := 0) (by decide +kernel)) <|
  n_c (s_iconst (pc := 1) (n := 0) (by decide +kernel) (by decide +kernel)) <|
  n_c (s_pIc (s_putI (pc := 2) (ci := 12) (k := 28) (idx := 283) nok12 (by decide) rfl rfl (by decide +kernel) w_1435) (gk107 hG)) <|
  n_c (s_aload_n (pc := 5) (k := 0) (by decide +kernel)) <|
  n_c (s_callVc (s_callV (pc := 6) (csX12_reads N hG) (by decide) okX12_reads nok12 w_1707 w_53 w_1705 (by decide +kernel)) (gk107 hG)) <|
  n_c (s_iload_n (pc := 9) (k := 1) (by decide +kernel)) <|
  n_c (s_iconst (pc := 10) (n := 1) (by decide +kernel) (by decide +kernel)) <|
  n_c (s_icmp_ne (pc := 11) (off := 8) (by decide +kernel) (by decide +kernel)) <|
  n_c (s_aload_n (pc := 14) (k := 0) (by decide +kernel)) <|
  n_c (s_callVc (s_callV (pc := 15) (csX12_readSupper N hG) (by decide) okX12_readSupper nok12 w_1731 w_59 w_1729 (by decide +kernel)) (gk107 hG)) <|
  n_c (s_iret (pc := 18) rfl (by decide +kernel)) <|
  n_c (s_iload_n (pc := 19) (k := 1) (by decide +kernel)) <|
  n_c (s_iconst (pc := 20) (n := 2) (by decide +kernel) (by decide +kernel)) <|
  n_c (s_icmp_ne (pc := 21) (off := 8) (by decide +kernel) (by decide +kernel)) <|
  n_c (s_aload_n (pc := 24) (k := 0) (by decide +kernel)) <|
  n_c (s_callVc (s_callV (pc := 25) (csX12_readCustoms N hG) (by decide) okX12_readCustoms nok12 w_1763 w_67 w_1761 (by decide +kernel)) (gk107 hG)) <|
  n_c (s_iret (pc := 28) rfl (by decide +kernel)) <|
  n_c (s_iload_n (pc := 29) (k := 1) (by decide +kernel)) <|
  n_c (s_iconst (pc := 30) (n := 3) (by decide +kernel) (by decide +kernel)) <|
  n_c (s_icmp_ne (pc := 31) (off := 10) (by decide +kernel) (by decide +kernel)) <|
  n_c (s_aload_n (pc := 34) (k := 0) (by decide +kernel)) <|
  n_c (s_callVc (s_callV (pc := 35) (csX12_readLine N hG) (by decide) okX12_readLine nok12 w_1775 w_70 w_1773 (by decide +kernel)) (gk107 hG)) <|
  n_c (s_goto (pc := 38) (off := 7) (by decide +kernel) (by decide +kernel)) <|
  n_c (s_aload_n (pc := 41) (k := 0) (by decide +kernel)) <|
  n_c (s_callVc (s_callV (pc := 42) (csX12_readLaw N hG) (by decide) okX12_readLaw nok12 w_1783 w_72 w_1781 (by decide +kernel)) (gk107 hG)) <|
  n_c (s_iret (pc := 45) rfl (by decide +kernel)) <|
  n_e
def fX12_readsText (N : Nat) (x1 : Int32) (M : nM) : Option (Int32 × nM) :=
  let M1 : nM := n_up M 107 28 (0 : Int32)
  (fX12_reads_all N M1).bind fun p2 =>
  if ¬ x1 = (1 : Int32) then
    if ¬ x1 = (2 : Int32) then
      if ¬ x1 = (3 : Int32) then
        (fX12_readLaw N p2.2).bind fun p3 =>
        some (p3.1, p3.2)
      else
        (fX12_readLine N p2.2).bind fun p4 =>
        some (p4.1, p4.2)
    else
      (fX12_readCustoms N p2.2).bind fun p5 =>
      some (p5.1, p5.2)
  else
    (fX12_readSupper N p2.2).bind fun p6 =>
    some (p6.1, p6.2)
set_option maxRecDepth 200000 in
theorem bX12_readsText_0 {l : Launch} {w : nW} (N : Nat) {G : nG} (hG : n_GOK G) (x1 : Int32) (M : nM) (r : Int32 × nM) (h : fX12_readsText N x1 M = some r) : n_At l w 9 mX12_readsText 0 [(0, .ref 107), (1, .int x1)] [] (G, M) (dv_i r.1, (G, r.2)) :=
  n_seg (fin := n_fin dv_i G) (K := []) 30 (iX12_readsText N hG) n_ke (by rfl) h
theorem eX12_readsText {l : Launch} {w : nW} (N : Nat) {G : nG} (hG : n_GOK G) (z1 : Int32) (M : nM) (r : Int32 × nM) (h : fX12_readsText N z1 M = some r) : n_Met l w 9 mX12_readsText [.ref 107, .int z1] (G, M) (dv_i r.1, (G, r.2)) :=
  n_entry (by decide +kernel) rfl (Nat.le_of_ble_eq_true rfl) (n_sub (lv := [(0, .ref 107), (1, .int z1)]) (n_qc rfl (n_qc rfl n_qe)) (bX12_readsText_0 N hG z1 M r h))
abbrev hX12_readsText (N : Nat) : nF := fun T as M k => n_pC 107 as (fun as => n_pI as (fun z1 as => n_pE as ((fX12_readsText N z1 M).bind fun p => k (dv_i p.1) p.2)))
theorem csX12_readsText {l : Launch} {w : nW} (N : Nat) {G : nG} (hG : n_GOK G) : n_CS l w 9 mX12_readsText G (hX12_readsText N) := fun T as M k r h => by
  obtain ⟨t0, rfl, h1⟩ := n_pC_x h
  obtain ⟨z1, t1, rfl, h2⟩ := n_pI_x h1
  obtain ⟨rfl, hE⟩ := n_pE_x h2
  obtain ⟨p, hp, hk⟩ := Option.bind_eq_some_iff.mp hE
  exact ⟨_, _, eX12_readsText N hG z1 M p hp, hk⟩
/-! ===== SleightHouseModel.takesLaw(I)V ===== -/
def mX12_takesLaw : nY := (RX12, yX12_takesLaw, cX12_takesLaw, 3, none)
theorem okX12_takesLaw : n_MOK mX12_takesLaw 1 := ⟨w_1828, w_151, ⟨by decide +kernel, by decide +kernel, by decide +kernel⟩, by decide⟩
abbrev aX12_takesLaw (N : Nat) : List (Nat × nO (Unit × nM)) := [(0, o_push (.int (0 : Int32)) 1), (1, o_istore 3 2 2), (2, o_iload 2 3), (3, o_iload 1 4), (4, oc_ge 105 7), (7, o_aload 0 8), (8, o_gRc 107 120 11), (11, o_push (.int (16 : Int32)) 13), (13, o_aload 0 14), (14, o_gIc 107 28 17), (17, o_imul 18), (18, o_iload 2 19), (19, o_iadd 20), (20, o_aload 0 21), (21, o_gRc 107 120 24), (24, o_push (.int (32 : Int32)) 26), (26, o_iload 2 27), (27, o_iadd 28), (28, o_aldc 120 48 29), (29, o_iastc 120 48 30), (30, o_aload 0 31), (31, o_gRc 107 121 34), (34, o_push (.int (16 : Int32)) 36), (36, o_aload 0 37), (37, o_gIc 107 28 40), (40, o_imul 41), (41, o_iload 2 42), (42, o_iadd 43), (43, o_aload 0 44), (44, o_gRc 107 121 47), (47, o_push (.int (32 : Int32)) 49), (49, o_iload 2 50), (50, o_iadd 51), (51, o_aldc 121 48 52), (52, o_iastc 121 48 53), (53, o_aload 0 54), (54, o_gRc 107 122 57), (57, o_push (.int (16 : Int32)) 59), (59, o_aload 0 60), (60, o_gIc 107 28 63), (63, o_imul 64), (64, o_iload 2 65), (65, o_iadd 66), (66, o_aload 0 67), (67, o_gRc 107 122 70), (70, o_push (.int (32 : Int32)) 72), (72, o_iload 2 73), (73, o_iadd 74), (74, o_aldc 122 48 75), (75, o_iastc 122 48 76), (76, o_aload 0 77), (77, o_gRc 107 123 80), (80, o_push (.int (16 : Int32)) 82), (82, o_aload 0 83), (83, o_gIc 107 28 86), (86, o_imul 87), (87, o_iload 2 88), (88, o_iadd 89), (89, o_aload 0 90), (90, o_gRc 107 123 93), (93, o_push (.int (32 : Int32)) 95), (95, o_iload 2 96), (96, o_iadd 97), (97, o_aldc 123 48 98), (98, o_iastc 123 48 99), (99, o_inc 3 2 (1 : Int32) 102), (102, o_goto 2), (105, o_push (.int (0 : Int32)) 106), (106, o_istore 3 2 107), (107, o_iload 2 108), (108, o_aload 0 109), (109, o_gIc 107 29 112), (112, oc_ge 171 115), (115, o_aload 0 116), (116, o_gRc 107 124 119), (119, o_push (.int (400 : Int32)) 122), (122, o_aload 0 123), (123, o_gIc 107 28 126), (126, o_imul 127), (127, o_iload 2 128), (128, o_iadd 129), (129, o_aload 0 130), (130, o_gRc 107 124 133), (133, o_push (.int (800 : Int32)) 136), (136, o_iload 2 137), (137, o_iadd 138), (138, o_aldc 124 1200 139), (139, o_iastc 124 1200 140), (140, o_aload 0 141), (141, o_gRc 107 125 144), (144, o_push (.int (400 : Int32)) 147), (147, o_aload 0 148), (148, o_gIc 107 28 151), (151, o_imul 152), (152, o_iload 2 153), (153, o_iadd 154), (154, o_aload 0 155), (155, o_gRc 107 125 158), (158, o_push (.int (800 : Int32)) 161), (161, o_iload 2 162), (162, o_iadd 163), (163, o_aldc 125 1200 164), (164, o_iastc 125 1200 165), (165, o_inc 3 2 (1 : Int32) 168), (168, o_goto 107), (171, o_aload 0 172), (172, o_gRc 107 119 175), (175, o_aload 0 176), (176, o_gIc 107 28 179), (179, o_iload 1 180), (180, o_iastc 119 2 181), (181, o_vret)]
set_option maxRecDepth 200000 in
theorem iX12_takesLaw {l : Launch} {w : nW} (N : Nat) {G : nG} (hG : n_GOK G) : n_AllS l w 0 mX12_takesLaw G (n_fin dv_v G) (aX12_takesLaw N) :=
  n_c (s_iconst (pc := 0) (n := 0) (by decide +kernel) (by decide +kernel)) <|
  n_c (s_istore_n (pc := 1) (k := 2) (by decide +kernel)) <|
  n_c (s_iload_n (pc := 2) (k := 2) (by decide +kernel)) <|
  n_c (s_iload_n (pc := 3) (k := 1) (by decide +kernel)) <|
  n_c (s_icmp_ge (pc := 4) (off := 101) (by decide +kernel) (by decide +kernel)) <|
  n_c (s_aload_n (pc := 7) (k := 0) (by decide +kernel)) <|
  n_c (s_gRc (s_getR (pc := 8) (ci := 12) (k := 22) (idx := 46) nok12 (by decide) rfl (by decide +kernel) w_1429) (gk107 hG) (gm107_22 hG)) <|
  n_c (s_bipush (pc := 11) (n := 16) (by decide +kernel) (by decide +kernel)) <|
  n_c (s_aload_n (pc := 13) (k := 0) (by decide +kernel)) <|
  n_c (s_gIc (s_getI (pc := 14) (ci := 12) (k := 28) (idx := 283) nok12 (by decide) rfl (by decide +kernel) w_1435) (gk107 hG)) <|
  n_c (s_imul (pc := 17) (by decide +kernel)) <|
  n_c (s_iload_n (pc := 18) (k := 2) (by decide +kernel)) <|
  n_c (s_iadd (pc := 19) (by decide +kernel)) <|
  n_c (s_aload_n (pc := 20) (k := 0) (by decide +kernel)) <|
  n_c (s_gRc (s_getR (pc := 21) (ci := 12) (k := 22) (idx := 46) nok12 (by decide) rfl (by decide +kernel) w_1429) (gk107 hG) (gm107_22 hG)) <|
  n_c (s_bipush (pc := 24) (n := 32) (by decide +kernel) (by decide +kernel)) <|
  n_c (s_iload_n (pc := 26) (k := 2) (by decide +kernel)) <|
  n_c (s_iadd (pc := 27) (by decide +kernel)) <|
  n_c (s_aldc (s_iaload (pc := 28) (by decide +kernel)) (gk120 hG) (gl120 hG)) <|
  n_c (s_iastc (s_iastore (pc := 29) (by decide +kernel)) (gk120 hG) (gl120 hG)) <|
  n_c (s_aload_n (pc := 30) (k := 0) (by decide +kernel)) <|
  n_c (s_gRc (s_getR (pc := 31) (ci := 12) (k := 23) (idx := 49) nok12 (by decide) rfl (by decide +kernel) w_1430) (gk107 hG) (gm107_23 hG)) <|
  n_c (s_bipush (pc := 34) (n := 16) (by decide +kernel) (by decide +kernel)) <|
  n_c (s_aload_n (pc := 36) (k := 0) (by decide +kernel)) <|
  n_c (s_gIc (s_getI (pc := 37) (ci := 12) (k := 28) (idx := 283) nok12 (by decide) rfl (by decide +kernel) w_1435) (gk107 hG)) <|
  n_c (s_imul (pc := 40) (by decide +kernel)) <|
  n_c (s_iload_n (pc := 41) (k := 2) (by decide +kernel)) <|
  n_c (s_iadd (pc := 42) (by decide +kernel)) <|
  n_c (s_aload_n (pc := 43) (k := 0) (by decide +kernel)) <|
  n_c (s_gRc (s_getR (pc := 44) (ci := 12) (k := 23) (idx := 49) nok12 (by decide) rfl (by decide +kernel) w_1430) (gk107 hG) (gm107_23 hG)) <|
  n_c (s_bipush (pc := 47) (n := 32) (by decide +kernel) (by decide +kernel)) <|
  n_c (s_iload_n (pc := 49) (k := 2) (by decide +kernel)) <|
  n_c (s_iadd (pc := 50) (by decide +kernel)) <|
  n_c (s_aldc (s_iaload (pc := 51) (by decide +kernel)) (gk121 hG) (gl121 hG)) <|
  n_c (s_iastc (s_iastore (pc := 52) (by decide +kernel)) (gk121 hG) (gl121 hG)) <|
  n_c (s_aload_n (pc := 53) (k := 0) (by decide +kernel)) <|
  n_c (s_gRc (s_getR (pc := 54) (ci := 12) (k := 24) (idx := 52) nok12 (by decide) rfl (by decide +kernel) w_1431) (gk107 hG) (gm107_24 hG)) <|
  n_c (s_bipush (pc := 57) (n := 16) (by decide +kernel) (by decide +kernel)) <|
  n_c (s_aload_n (pc := 59) (k := 0) (by decide +kernel)) <|
  n_c (s_gIc (s_getI (pc := 60) (ci := 12) (k := 28) (idx := 283) nok12 (by decide) rfl (by decide +kernel) w_1435) (gk107 hG)) <|
  n_c (s_imul (pc := 63) (by decide +kernel)) <|
  n_c (s_iload_n (pc := 64) (k := 2) (by decide +kernel)) <|
  n_c (s_iadd (pc := 65) (by decide +kernel)) <|
  n_c (s_aload_n (pc := 66) (k := 0) (by decide +kernel)) <|
  n_c (s_gRc (s_getR (pc := 67) (ci := 12) (k := 24) (idx := 52) nok12 (by decide) rfl (by decide +kernel) w_1431) (gk107 hG) (gm107_24 hG)) <|
  n_c (s_bipush (pc := 70) (n := 32) (by decide +kernel) (by decide +kernel)) <|
  n_c (s_iload_n (pc := 72) (k := 2) (by decide +kernel)) <|
  n_c (s_iadd (pc := 73) (by decide +kernel)) <|
  n_c (s_aldc (s_iaload (pc := 74) (by decide +kernel)) (gk122 hG) (gl122 hG)) <|
  n_c (s_iastc (s_iastore (pc := 75) (by decide +kernel)) (gk122 hG) (gl122 hG)) <|
  n_c (s_aload_n (pc := 76) (k := 0) (by decide +kernel)) <|
  n_c (s_gRc (s_getR (pc := 77) (ci := 12) (k := 25) (idx := 55) nok12 (by decide) rfl (by decide +kernel) w_1432) (gk107 hG) (gm107_25 hG)) <|
  n_c (s_bipush (pc := 80) (n := 16) (by decide +kernel) (by decide +kernel)) <|
  n_c (s_aload_n (pc := 82) (k := 0) (by decide +kernel)) <|
  n_c (s_gIc (s_getI (pc := 83) (ci := 12) (k := 28) (idx := 283) nok12 (by decide) rfl (by decide +kernel) w_1435) (gk107 hG)) <|
  n_c (s_imul (pc := 86) (by decide +kernel)) <|
  n_c (s_iload_n (pc := 87) (k := 2) (by decide +kernel)) <|
  n_c (s_iadd (pc := 88) (by decide +kernel)) <|
  n_c (s_aload_n (pc := 89) (k := 0) (by decide +kernel)) <|
  n_c (s_gRc (s_getR (pc := 90) (ci := 12) (k := 25) (idx := 55) nok12 (by decide) rfl (by decide +kernel) w_1432) (gk107 hG) (gm107_25 hG)) <|
  n_c (s_bipush (pc := 93) (n := 32) (by decide +kernel) (by decide +kernel)) <|
  n_c (s_iload_n (pc := 95) (k := 2) (by decide +kernel)) <|
  n_c (s_iadd (pc := 96) (by decide +kernel)) <|
  n_c (s_aldc (s_iaload (pc := 97) (by decide +kernel)) (gk123 hG) (gl123 hG)) <|
  n_c (s_iastc (s_iastore (pc := 98) (by decide +kernel)) (gk123 hG) (gl123 hG)) <|
  n_c (s_iinc (pc := 99) (n := 1) (by decide +kernel) (by decide +kernel)) <|
  n_c (s_goto (pc := 102) (off := -100) (by decide +kernel) (by decide +kernel)) <|
  n_c (s_iconst (pc := 105) (n := 0) (by decide +kernel) (by decide +kernel)) <|
  n_c (s_istore_n (pc := 106) (k := 2) (by decide +kernel)) <|
  n_c (s_iload_n (pc := 107) (k := 2) (by decide +kernel)) <|
  n_c (s_aload_n (pc := 108) (k := 0) (by decide +kernel)) <|
  n_c (s_gIc (s_getI (pc := 109) (ci := 12) (k := 29) (idx := 229) nok12 (by decide) rfl (by decide +kernel) w_1436) (gk107 hG)) <|
  n_c (s_icmp_ge (pc := 112) (off := 59) (by decide +kernel) (by decide +kernel)) <|
  n_c (s_aload_n (pc := 115) (k := 0) (by decide +kernel)) <|
  n_c (s_gRc (s_getR (pc := 116) (ci := 12) (k := 26) (idx := 58) nok12 (by decide) rfl (by decide +kernel) w_1433) (gk107 hG) (gm107_26 hG)) <|
  n_c (s_sipush (pc := 119) (n := 400) (by decide +kernel) (by decide +kernel)) <|
  n_c (s_aload_n (pc := 122) (k := 0) (by decide +kernel)) <|
  n_c (s_gIc (s_getI (pc := 123) (ci := 12) (k := 28) (idx := 283) nok12 (by decide) rfl (by decide +kernel) w_1435) (gk107 hG)) <|
  n_c (s_imul (pc := 126) (by decide +kernel)) <|
  n_c (s_iload_n (pc := 127) (k := 2) (by decide +kernel)) <|
  n_c (s_iadd (pc := 128) (by decide +kernel)) <|
  n_c (s_aload_n (pc := 129) (k := 0) (by decide +kernel)) <|
  n_c (s_gRc (s_getR (pc := 130) (ci := 12) (k := 26) (idx := 58) nok12 (by decide) rfl (by decide +kernel) w_1433) (gk107 hG) (gm107_26 hG)) <|
  n_c (s_sipush (pc := 133) (n := 800) (by decide +kernel) (by decide +kernel)) <|
  n_c (s_iload_n (pc := 136) (k := 2) (by decide +kernel)) <|
  n_c (s_iadd (pc := 137) (by decide +kernel)) <|
  n_c (s_aldc (s_iaload (pc := 138) (by decide +kernel)) (gk124 hG) (gl124 hG)) <|
  n_c (s_iastc (s_iastore (pc := 139) (by decide +kernel)) (gk124 hG) (gl124 hG)) <|
  n_c (s_aload_n (pc := 140) (k := 0) (by decide +kernel)) <|
  n_c (s_gRc (s_getR (pc := 141) (ci := 12) (k := 27) (idx := 61) nok12 (by decide) rfl (by decide +kernel) w_1434) (gk107 hG) (gm107_27 hG)) <|
  n_c (s_sipush (pc := 144) (n := 400) (by decide +kernel) (by decide +kernel)) <|
  n_c (s_aload_n (pc := 147) (k := 0) (by decide +kernel)) <|
  n_c (s_gIc (s_getI (pc := 148) (ci := 12) (k := 28) (idx := 283) nok12 (by decide) rfl (by decide +kernel) w_1435) (gk107 hG)) <|
  n_c (s_imul (pc := 151) (by decide +kernel)) <|
  n_c (s_iload_n (pc := 152) (k := 2) (by decide +kernel)) <|
  n_c (s_iadd (pc := 153) (by decide +kernel)) <|
  n_c (s_aload_n (pc := 154) (k := 0) (by decide +kernel)) <|
  n_c (s_gRc (s_getR (pc := 155) (ci := 12) (k := 27) (idx := 61) nok12 (by decide) rfl (by decide +kernel) w_1434) (gk107 hG) (gm107_27 hG)) <|
  n_c (s_sipush (pc := 158) (n := 800) (by decide +kernel) (by decide +kernel)) <|
  n_c (s_iload_n (pc := 161) (k := 2) (by decide +kernel)) <|
  n_c (s_iadd (pc := 162) (by decide +kernel)) <|
  n_c (s_aldc (s_iaload (pc := 163) (by decide +kernel)) (gk125 hG) (gl125 hG)) <|
  n_c (s_iastc (s_iastore (pc := 164) (by decide +kernel)) (gk125 hG) (gl125 hG)) <|
  n_c (s_iinc (pc := 165) (n := 1) (by decide +kernel) (by decide +kernel)) <|
  n_c (s_goto (pc := 168) (off := -61) (by decide +kernel) (by decide +kernel)) <|
  n_c (s_aload_n (pc := 171) (k := 0) (by decide +kernel)) <|
  n_c (s_gRc (s_getR (pc := 172) (ci := 12) (k := 21) (idx := 43) nok12 (by decide) rfl (by decide +kernel) w_1428) (gk107 hG) (gm107_21 hG)) <|
  n_c (s_aload_n (pc := 175) (k := 0) (by decide +kernel)) <|
  n_c (s_gIc (s_getI (pc := 176) (ci := 12) (k := 28) (idx := 283) nok12 (by decide) rfl (by decide +kernel) w_1435) (gk107 hG)) <|
  n_c (s_iload_n (pc := 179) (k := 1) (by decide +kernel)) <|
  n_c (s_iastc (s_iastore (pc := 180) (by decide +kernel)) (gk119 hG) (gl119 hG)) <|
  n_c (s_vret (pc := 181) rfl (by decide +kernel)) <|
  n_e
def fX12_takesLaw_107 (N : Nat) : Nat → Int32 → Int32 → nM → Option (Unit × nM)
  | 0, _, _, _ => none
  | n + 1, x1, x2, M =>
    if (M 107 29) ≤ x2 then
      n_chk (n_ib 2 (M 107 28)) <|
      let M1 : nM := n_up M 119 (M 107 28).toNatClampNeg x1
      some ((), M1)
    else
      n_chk (n_ib 1200 ((800 : Int32) + x2)) <|
      n_chk (n_ib 1200 (((400 : Int32) * (M 107 28)) + x2)) <|
      let M2 : nM := n_up M 124 (((400 : Int32) * (M 107 28)) + x2).toNatClampNeg (M 124 ((800 : Int32) + x2).toNatClampNeg)
      n_chk (n_ib 1200 ((800 : Int32) + x2)) <|
      n_chk (n_ib 1200 (((400 : Int32) * (M2 107 28)) + x2)) <|
      let M3 : nM := n_up M2 125 (((400 : Int32) * (M2 107 28)) + x2).toNatClampNeg (M2 125 ((800 : Int32) + x2).toNatClampNeg)
      let v4 : Int32 := (x2 + (1 : Int32))
      fX12_takesLaw_107 N n x1 v4 M3
set_option maxRecDepth 200000 in
theorem bX12_takesLaw_107 {l : Launch} {w : nW} (N : Nat) {G : nG} (hG : n_GOK G) : ∀ (n : Nat) (x1 : Int32) (x2 : Int32) (M : nM) (r : Unit × nM), fX12_takesLaw_107 N n x1 x2 M = some r → n_At l w 0 mX12_takesLaw 107 [(0, .ref 107), (1, .int x1), (2, .int x2)] [] (G, M) (dv_v r.1, (G, r.2)) := by
  intro n
  induction n with
  | zero => intro x1 x2 M r h; cases (show (none : Option (Unit × nM)) = some r from h)
  | succ n ih =>
    intro x1 x2 M r h
    exact n_seg (fin := n_fin dv_v G) (K := [(107, fun lv st M => n_lC 107 lv 0 (n_lI lv 1 (fun x1 => n_lI lv 2 (fun x2 => n_pE st (fX12_takesLaw_107 N n x1 x2 M)))))]) 46 (iX12_takesLaw N hG) (n_kc (fun lv st M r h => by
      obtain ⟨e0, h1⟩ := n_lC_x h
      obtain ⟨x1, e1, h2⟩ := n_lI_x h1
      obtain ⟨x2, e2, h3⟩ := n_lI_x h2
      obtain ⟨rfl, h4⟩ := n_pE_x h3
      exact n_sub (n_qc e0 (n_qc e1 (n_qc e2 n_qe))) (ih x1 x2 M r h4)) n_ke) (by rfl) h
def fX12_takesLaw_2 (N : Nat) : Nat → Int32 → Int32 → nM → Option (Unit × nM)
  | 0, _, _, _ => none
  | n + 1, x1, x2, M =>
    if x1 ≤ x2 then
      fX12_takesLaw_107 N N x1 (0 : Int32) M
    else
      n_chk (n_ib 48 ((32 : Int32) + x2)) <|
      n_chk (n_ib 48 (((16 : Int32) * (M 107 28)) + x2)) <|
      let M1 : nM := n_up M 120 (((16 : Int32) * (M 107 28)) + x2).toNatClampNeg (M 120 ((32 : Int32) + x2).toNatClampNeg)
      n_chk (n_ib 48 ((32 : Int32) + x2)) <|
      n_chk (n_ib 48 (((16 : Int32) * (M1 107 28)) + x2)) <|
      let M2 : nM := n_up M1 121 (((16 : Int32) * (M1 107 28)) + x2).toNatClampNeg (M1 121 ((32 : Int32) + x2).toNatClampNeg)
      n_chk (n_ib 48 ((32 : Int32) + x2)) <|
      n_chk (n_ib 48 (((16 : Int32) * (M2 107 28)) + x2)) <|
      let M3 : nM := n_up M2 122 (((16 : Int32) * (M2 107 28)) + x2).toNatClampNeg (M2 122 ((32 : Int32) + x2).toNatClampNeg)
      n_chk (n_ib 48 ((32 : Int32) + x2)) <|
      n_chk (n_ib 48 (((16 : Int32) * (M3 107 28)) + x2)) <|
      let M4 : nM := n_up M3 123 (((16 : Int32) * (M3 107 28)) + x2).toNatClampNeg (M3 123 ((32 : Int32) + x2).toNatClampNeg)
      let v5 : Int32 := (x2 + (1 : Int32))
      fX12_takesLaw_2 N n x1 v5 M4
set_option maxRecDepth 200000 in
theorem bX12_takesLaw_2 {l : Launch} {w : nW} (N : Nat) {G : nG} (hG : n_GOK G) : ∀ (n : Nat) (x1 : Int32) (x2 : Int32) (M : nM) (r : Unit × nM), fX12_takesLaw_2 N n x1 x2 M = some r → n_At l w 0 mX12_takesLaw 2 [(0, .ref 107), (1, .int x1), (2, .int x2)] [] (G, M) (dv_v r.1, (G, r.2)) := by
  intro n
  induction n with
  | zero => intro x1 x2 M r h; cases (show (none : Option (Unit × nM)) = some r from h)
  | succ n ih =>
    intro x1 x2 M r h
    exact n_seg (fin := n_fin dv_v G) (K := [(2, fun lv st M => n_lC 107 lv 0 (n_lI lv 1 (fun x1 => n_lI lv 2 (fun x2 => n_pE st (fX12_takesLaw_2 N n x1 x2 M))))), (107, fun lv st M => n_lC 107 lv 0 (n_lI lv 1 (fun x1 => n_lI lv 2 (fun x2 => n_pE st (fX12_takesLaw_107 N N x1 x2 M)))))]) 70 (iX12_takesLaw N hG) (n_kc (fun lv st M r h => by
      obtain ⟨e0, h1⟩ := n_lC_x h
      obtain ⟨x1, e1, h2⟩ := n_lI_x h1
      obtain ⟨x2, e2, h3⟩ := n_lI_x h2
      obtain ⟨rfl, h4⟩ := n_pE_x h3
      exact n_sub (n_qc e0 (n_qc e1 (n_qc e2 n_qe))) (ih x1 x2 M r h4)) (n_kc (fun lv st M r h => by
      obtain ⟨e0, h1⟩ := n_lC_x h
      obtain ⟨x1, e1, h2⟩ := n_lI_x h1
      obtain ⟨x2, e2, h3⟩ := n_lI_x h2
      obtain ⟨rfl, h4⟩ := n_pE_x h3
      exact n_sub (n_qc e0 (n_qc e1 (n_qc e2 n_qe))) (bX12_takesLaw_107 N hG N x1 x2 M r h4)) n_ke)) (by rfl) h
def fX12_takesLaw (N : Nat) (x1 : Int32) (M : nM) : Option (Unit × nM) :=
  fX12_takesLaw_2 N N x1 (0 : Int32) M
set_option maxRecDepth 200000 in
theorem bX12_takesLaw_0 {l : Launch} {w : nW} (N : Nat) {G : nG} (hG : n_GOK G) (x1 : Int32) (M : nM) (r : Unit × nM) (h : fX12_takesLaw N x1 M = some r) : n_At l w 0 mX12_takesLaw 0 [(0, .ref 107), (1, .int x1)] [] (G, M) (dv_v r.1, (G, r.2)) :=
  n_seg (fin := n_fin dv_v G) (K := [(2, fun lv st M => n_lC 107 lv 0 (n_lI lv 1 (fun x1 => n_lI lv 2 (fun x2 => n_pE st (fX12_takesLaw_2 N N x1 x2 M)))))]) 5 (iX12_takesLaw N hG) (n_kc (fun lv st M r h => by
      obtain ⟨e0, h1⟩ := n_lC_x h
      obtain ⟨x1, e1, h2⟩ := n_lI_x h1
      obtain ⟨x2, e2, h3⟩ := n_lI_x h2
      obtain ⟨rfl, h4⟩ := n_pE_x h3
      exact n_sub (n_qc e0 (n_qc e1 (n_qc e2 n_qe))) (bX12_takesLaw_2 N hG N x1 x2 M r h4)) n_ke) (by rfl) h
theorem eX12_takesLaw {l : Launch} {w : nW} (N : Nat) {G : nG} (hG : n_GOK G) (z1 : Int32) (M : nM) (r : Unit × nM) (h : fX12_takesLaw N z1 M = some r) : n_Met l w 0 mX12_takesLaw [.ref 107, .int z1] (G, M) (dv_v r.1, (G, r.2)) :=
  n_entry (by decide +kernel) rfl (Nat.le_of_ble_eq_true rfl) (n_sub (lv := [(0, .ref 107), (1, .int z1)]) (n_qc rfl (n_qc rfl n_qe)) (bX12_takesLaw_0 N hG z1 M r h))
abbrev hX12_takesLaw (N : Nat) : nF := fun T as M k => n_pC 107 as (fun as => n_pI as (fun z1 as => n_pE as ((fX12_takesLaw N z1 M).bind fun p => k (dv_v p.1) p.2)))
theorem csX12_takesLaw {l : Launch} {w : nW} (N : Nat) {G : nG} (hG : n_GOK G) : n_CS l w 0 mX12_takesLaw G (hX12_takesLaw N) := fun T as M k r h => by
  obtain ⟨t0, rfl, h1⟩ := n_pC_x h
  obtain ⟨z1, t1, rfl, h2⟩ := n_pI_x h1
  obtain ⟨rfl, hE⟩ := n_pE_x h2
  obtain ⟨p, hp, hk⟩ := Option.bind_eq_some_iff.mp hE
  exact ⟨_, _, eX12_takesLaw N hG z1 M p hp, hk⟩
/-! ===== SleightHouseModel.takesOther(II)V ===== -/
def mX12_takesOther : nY := (RX12, yX12_takesOther, cX12_takesOther, 4, none)
theorem okX12_takesOther : n_MOK mX12_takesOther 2 := ⟨w_1832, w_151, ⟨by decide +kernel, by decide +kernel, by decide +kernel⟩, by decide⟩
abbrev aX12_takesOther (N : Nat) : List (Nat × nO (Unit × nM)) := [(0, o_iload 1 1), (1, o_push (.int (3 : Int32)) 2), (2, oc_ne 40 5), (5, o_push (.int (0 : Int32)) 6), (6, o_istore 4 3 7), (7, o_iload 3 8), (8, o_push (.int (12 : Int32)) 10), (10, oc_ge 34 13), (13, o_aload 0 14), (14, o_gRc 107 129 17), (17, o_iload 3 18), (18, o_aload 0 19), (19, o_gRc 107 129 22), (22, o_push (.int (12 : Int32)) 24), (24, o_iload 3 25), (25, o_iadd 26), (26, o_aldc 129 24 27), (27, o_iastc 129 24 28), (28, o_inc 4 3 (1 : Int32) 31), (31, o_goto 7), (34, o_aload 0 35), (35, o_iload 2 36), (36, o_pIc 107 41 39), (39, o_vret), (40, o_iload 1 41), (41, o_push (.int (1 : Int32)) 42), (42, oc_ne 83 45), (45, o_push (.int (0 : Int32)) 46), (46, o_istore 4 3 47), (47, o_iload 3 48), (48, o_push (.int (4 : Int32)) 49), (49, o_iload 2 50), (50, o_imul 51), (51, oc_ge 75 54), (54, o_aload 0 55), (55, o_gRc 107 127 58), (58, o_iload 3 59), (59, o_aload 0 60), (60, o_gRc 107 127 63), (63, o_push (.int (64 : Int32)) 65), (65, o_iload 3 66), (66, o_iadd 67), (67, o_aldc 127 128 68), (68, o_iastc 127 128 69), (69, o_inc 4 3 (1 : Int32) 72), (72, o_goto 47), (75, o_aload 0 76), (76, o_iload 2 77), (77, o_pIc 107 37 80), (80, o_goto 118), (83, o_push (.int (0 : Int32)) 84), (84, o_istore 4 3 85), (85, o_iload 3 86), (86, o_push (.int (4 : Int32)) 87), (87, o_iload 2 88), (88, o_imul 89), (89, oc_ge 113 92), (92, o_aload 0 93), (93, o_gRc 107 128 96), (96, o_iload 3 97), (97, o_aload 0 98), (98, o_gRc 107 128 101), (101, o_push (.int (64 : Int32)) 103), (103, o_iload 3 104), (104, o_iadd 105), (105, o_aldc 128 128 106), (106, o_iastc 128 128 107), (107, o_inc 4 3 (1 : Int32) 110), (110, o_goto 85), (113, o_aload 0 114), (114, o_iload 2 115), (115, o_pIc 107 39 118), (118, o_aload 0 119), (119, o_push (.int (0 : Int32)) 120), (120, o_pIc 107 3 123), (123, o_vret)]
set_option maxRecDepth 200000 in
theorem iX12_takesOther {l : Launch} {w : nW} (N : Nat) {G : nG} (hG : n_GOK G) : n_AllS l w 0 mX12_takesOther G (n_fin dv_v G) (aX12_takesOther N) :=
  n_c (s_iload_n (pc := 0) (k := 1) (by decide +kernel)) <|
  n_c (s_iconst (pc := 1) (n := 3) (by decide +kernel) (by decide +kernel)) <|
  n_c (s_icmp_ne (pc := 2) (off := 38) (by decide +kernel) (by decide +kernel)) <|
  n_c (s_iconst (pc := 5) (n := 0) (by decide +kernel) (by decide +kernel)) <|
  n_c (s_istore_n (pc := 6) (k := 3) (by decide +kernel)) <|
  n_c (s_iload_n (pc := 7) (k := 3) (by decide +kernel)) <|
  n_c (s_bipush (pc := 8) (n := 12) (by decide +kernel) (by decide +kernel)) <|
  n_c (s_icmp_ge (pc := 10) (off := 24) (by decide +kernel) (by decide +kernel)) <|
  n_c (s_aload_n (pc := 13) (k := 0) (by decide +kernel)) <|
  n_c (s_gRc (s_getR (pc := 14) (ci := 12) (k := 42) (idx := 77) nok12 (by decide) rfl (by decide +kernel) w_1449) (gk107 hG) (gm107_42 hG)) <|
  n_c (s_iload_n (pc := 17) (k := 3) (by decide +kernel)) <|
  n_c (s_aload_n (pc := 18) (k := 0) (by decide +kernel)) <|
  n_c (s_gRc (s_getR (pc := 19) (ci := 12) (k := 42) (idx := 77) nok12 (by decide) rfl (by decide +kernel) w_1449) (gk107 hG) (gm107_42 hG)) <|
  n_c (s_bipush (pc := 22) (n := 12) (by decide +kernel) (by decide +kernel)) <|
  n_c (s_iload_n (pc := 24) (k := 3) (by decide +kernel)) <|
  n_c (s_iadd (pc := 25) (by decide +kernel)) <|
  n_c (s_aldc (s_iaload (pc := 26) (by decide +kernel)) (gk129 hG) (gl129 hG)) <|
  n_c (s_iastc (s_iastore (pc := 27) (by decide +kernel)) (gk129 hG) (gl129 hG)) <|
  n_c (s_iinc (pc := 28) (n := 1) (by decide +kernel) (by decide +kernel)) <|
  n_c (s_goto (pc := 31) (off := -24) (by decide +kernel) (by decide +kernel)) <|
  n_c (s_aload_n (pc := 34) (k := 0) (by decide +kernel)) <|
  n_c (s_iload_n (pc := 35) (k := 2) (by decide +kernel)) <|
  n_c (s_pIc (s_putI (pc := 36) (ci := 12) (k := 41) (idx := 320) nok12 (by decide) rfl rfl (by decide +kernel) w_1448) (gk107 hG)) <|
  n_c (s_vret (pc := 39) rfl (by decide +kernel)) <|
  n_c (s_iload_n (pc := 40) (k := 1) (by decide +kernel)) <|
  n_c (s_iconst (pc := 41) (n := 1) (by decide +kernel) (by decide +kernel)) <|
  n_c (s_icmp_ne (pc := 42) (off := 41) (by decide +kernel) (by decide +kernel)) <|
  n_c (s_iconst (pc := 45) (n := 0) (by decide +kernel) (by decide +kernel)) <|
  n_c (s_istore_n (pc := 46) (k := 3) (by decide +kernel)) <|
  n_c (s_iload_n (pc := 47) (k := 3) (by decide +kernel)) <|
  n_c (s_iconst (pc := 48) (n := 4) (by decide +kernel) (by decide +kernel)) <|
  n_c (s_iload_n (pc := 49) (k := 2) (by decide +kernel)) <|
  n_c (s_imul (pc := 50) (by decide +kernel)) <|
  n_c (s_icmp_ge (pc := 51) (off := 24) (by decide +kernel) (by decide +kernel)) <|
  n_c (s_aload_n (pc := 54) (k := 0) (by decide +kernel)) <|
  n_c (s_gRc (s_getR (pc := 55) (ci := 12) (k := 38) (idx := 71) nok12 (by decide) rfl (by decide +kernel) w_1445) (gk107 hG) (gm107_38 hG)) <|
  n_c (s_iload_n (pc := 58) (k := 3) (by decide +kernel)) <|
  n_c (s_aload_n (pc := 59) (k := 0) (by decide +kernel)) <|
  n_c (s_gRc (s_getR (pc := 60) (ci := 12) (k := 38) (idx := 71) nok12 (by decide) rfl (by decide +kernel) w_1445) (gk107 hG) (gm107_38 hG)) <|
  n_c (s_bipush (pc := 63) (n := 64) (by decide +kernel) (by decide +kernel)) <|
  n_c (s_iload_n (pc := 65) (k := 3) (by decide +kernel)) <|
  n_c (s_iadd (pc := 66) (by decide +kernel)) <|
  n_c (s_aldc (s_iaload (pc := 67) (by decide +kernel)) (gk127 hG) (gl127 hG)) <|
  n_c (s_iastc (s_iastore (pc := 68) (by decide +kernel)) (gk127 hG) (gl127 hG)) <|
  n_c (s_iinc (pc := 69) (n := 1) (by decide +kernel) (by decide +kernel)) <|
  n_c (s_goto (pc := 72) (off := -25) (by decide +kernel) (by decide +kernel)) <|
  n_c (s_aload_n (pc := 75) (k := 0) (by decide +kernel)) <|
  n_c (s_iload_n (pc := 76) (k := 2) (by decide +kernel)) <|
  n_c (s_pIc (s_putI (pc := 77) (ci := 12) (k := 37) (idx := 323) nok12 (by decide) rfl rfl (by decide +kernel) w_1444) (gk107 hG)) <|
  n_c (s_goto (pc := 80) (off := 38) (by decide +kernel) (by decide +kernel)) <|
  n_c (s_iconst (pc := 83) (n := 0) (by decide +kernel) (by decide +kernel)) <|
  n_c (s_istore_n (pc := 84) (k := 3) (by decide +kernel)) <|
  n_c (s_iload_n (pc := 85) (k := 3) (by decide +kernel)) <|
  n_c (s_iconst (pc := 86) (n := 4) (by decide +kernel) (by decide +kernel)) <|
  n_c (s_iload_n (pc := 87) (k := 2) (by decide +kernel)) <|
  n_c (s_imul (pc := 88) (by decide +kernel)) <|
  n_c (s_icmp_ge (pc := 89) (off := 24) (by decide +kernel) (by decide +kernel)) <|
  n_c (s_aload_n (pc := 92) (k := 0) (by decide +kernel)) <|
  n_c (s_gRc (s_getR (pc := 93) (ci := 12) (k := 40) (idx := 74) nok12 (by decide) rfl (by decide +kernel) w_1447) (gk107 hG) (gm107_40 hG)) <|
  n_c (s_iload_n (pc := 96) (k := 3) (by decide +kernel)) <|
  n_c (s_aload_n (pc := 97) (k := 0) (by decide +kernel)) <|
  n_c (s_gRc (s_getR (pc := 98) (ci := 12) (k := 40) (idx := 74) nok12 (by decide) rfl (by decide +kernel) w_1447) (gk107 hG) (gm107_40 hG)) <|
  n_c (s_bipush (pc := 101) (n := 64) (by decide +kernel) (by decide +kernel)) <|
  n_c (s_iload_n (pc := 103) (k := 3) (by decide +kernel)) <|
  n_c (s_iadd (pc := 104) (by decide +kernel)) <|
  n_c (s_aldc (s_iaload (pc := 105) (by decide +kernel)) (gk128 hG) (gl128 hG)) <|
  n_c (s_iastc (s_iastore (pc := 106) (by decide +kernel)) (gk128 hG) (gl128 hG)) <|
  n_c (s_iinc (pc := 107) (n := 1) (by decide +kernel) (by decide +kernel)) <|
  n_c (s_goto (pc := 110) (off := -25) (by decide +kernel) (by decide +kernel)) <|
  n_c (s_aload_n (pc := 113) (k := 0) (by decide +kernel)) <|
  n_c (s_iload_n (pc := 114) (k := 2) (by decide +kernel)) <|
  n_c (s_pIc (s_putI (pc := 115) (ci := 12) (k := 39) (idx := 326) nok12 (by decide) rfl rfl (by decide +kernel) w_1446) (gk107 hG)) <|
  n_c (s_aload_n (pc := 118) (k := 0) (by decide +kernel)) <|
  n_c (s_iconst (pc := 119) (n := 0) (by decide +kernel) (by decide +kernel)) <|
  n_c (s_pIc (s_putI (pc := 120) (ci := 12) (k := 3) (idx := 149) nok12 (by decide) rfl rfl (by decide +kernel) w_1410) (gk107 hG)) <|
  n_c (s_vret (pc := 123) rfl (by decide +kernel)) <|
  n_e
def fX12_takesOther_7 (N : Nat) : Nat → Int32 → Int32 → nM → Option (Unit × nM)
  | 0, _, _, _ => none
  | n + 1, x2, x3, M =>
    if (12 : Int32) ≤ x3 then
      let M1 : nM := n_up M 107 41 x2
      some ((), M1)
    else
      n_chk (n_ib 24 ((12 : Int32) + x3)) <|
      n_chk (n_ib 24 x3) <|
      let M2 : nM := n_up M 129 x3.toNatClampNeg (M 129 ((12 : Int32) + x3).toNatClampNeg)
      let v3 : Int32 := (x3 + (1 : Int32))
      fX12_takesOther_7 N n x2 v3 M2
set_option maxRecDepth 200000 in
theorem bX12_takesOther_7 {l : Launch} {w : nW} (N : Nat) {G : nG} (hG : n_GOK G) : ∀ (n : Nat) (x2 : Int32) (x3 : Int32) (M : nM) (r : Unit × nM), fX12_takesOther_7 N n x2 x3 M = some r → n_At l w 0 mX12_takesOther 7 [(0, .ref 107), (2, .int x2), (3, .int x3)] [] (G, M) (dv_v r.1, (G, r.2)) := by
  intro n
  induction n with
  | zero => intro x2 x3 M r h; cases (show (none : Option (Unit × nM)) = some r from h)
  | succ n ih =>
    intro x2 x3 M r h
    exact n_seg (fin := n_fin dv_v G) (K := [(7, fun lv st M => n_lC 107 lv 0 (n_lI lv 2 (fun x2 => n_lI lv 3 (fun x3 => n_pE st (fX12_takesOther_7 N n x2 x3 M)))))]) 22 (iX12_takesOther N hG) (n_kc (fun lv st M r h => by
      obtain ⟨e0, h1⟩ := n_lC_x h
      obtain ⟨x2, e2, h2⟩ := n_lI_x h1
      obtain ⟨x3, e3, h3⟩ := n_lI_x h2
      obtain ⟨rfl, h4⟩ := n_pE_x h3
      exact n_sub (n_qc e0 (n_qc e2 (n_qc e3 n_qe))) (ih x2 x3 M r h4)) n_ke) (by rfl) h
def fX12_takesOther_47 (N : Nat) : Nat → Int32 → Int32 → nM → Option (Unit × nM)
  | 0, _, _, _ => none
  | n + 1, x2, x3, M =>
    if ((4 : Int32) * x2) ≤ x3 then
      let M1 : nM := n_up M 107 37 x2
      let M2 : nM := n_up M1 107 3 (0 : Int32)
      some ((), M2)
    else
      n_chk (n_ib 128 ((64 : Int32) + x3)) <|
      n_chk (n_ib 128 x3) <|
      let M3 : nM := n_up M 127 x3.toNatClampNeg (M 127 ((64 : Int32) + x3).toNatClampNeg)
      let v4 : Int32 := (x3 + (1 : Int32))
      fX12_takesOther_47 N n x2 v4 M3
set_option maxRecDepth 200000 in
theorem bX12_takesOther_47 {l : Launch} {w : nW} (N : Nat) {G : nG} (hG : n_GOK G) : ∀ (n : Nat) (x2 : Int32) (x3 : Int32) (M : nM) (r : Unit × nM), fX12_takesOther_47 N n x2 x3 M = some r → n_At l w 0 mX12_takesOther 47 [(0, .ref 107), (2, .int x2), (3, .int x3)] [] (G, M) (dv_v r.1, (G, r.2)) := by
  intro n
  induction n with
  | zero => intro x2 x3 M r h; cases (show (none : Option (Unit × nM)) = some r from h)
  | succ n ih =>
    intro x2 x3 M r h
    exact n_seg (fin := n_fin dv_v G) (K := [(47, fun lv st M => n_lC 107 lv 0 (n_lI lv 2 (fun x2 => n_lI lv 3 (fun x3 => n_pE st (fX12_takesOther_47 N n x2 x3 M)))))]) 28 (iX12_takesOther N hG) (n_kc (fun lv st M r h => by
      obtain ⟨e0, h1⟩ := n_lC_x h
      obtain ⟨x2, e2, h2⟩ := n_lI_x h1
      obtain ⟨x3, e3, h3⟩ := n_lI_x h2
      obtain ⟨rfl, h4⟩ := n_pE_x h3
      exact n_sub (n_qc e0 (n_qc e2 (n_qc e3 n_qe))) (ih x2 x3 M r h4)) n_ke) (by rfl) h
def fX12_takesOther_85 (N : Nat) : Nat → Int32 → Int32 → nM → Option (Unit × nM)
  | 0, _, _, _ => none
  | n + 1, x2, x3, M =>
    if ((4 : Int32) * x2) ≤ x3 then
      let M1 : nM := n_up M 107 39 x2
      let M2 : nM := n_up M1 107 3 (0 : Int32)
      some ((), M2)
    else
      n_chk (n_ib 128 ((64 : Int32) + x3)) <|
      n_chk (n_ib 128 x3) <|
      let M3 : nM := n_up M 128 x3.toNatClampNeg (M 128 ((64 : Int32) + x3).toNatClampNeg)
      let v4 : Int32 := (x3 + (1 : Int32))
      fX12_takesOther_85 N n x2 v4 M3
set_option maxRecDepth 200000 in
theorem bX12_takesOther_85 {l : Launch} {w : nW} (N : Nat) {G : nG} (hG : n_GOK G) : ∀ (n : Nat) (x2 : Int32) (x3 : Int32) (M : nM) (r : Unit × nM), fX12_takesOther_85 N n x2 x3 M = some r → n_At l w 0 mX12_takesOther 85 [(0, .ref 107), (2, .int x2), (3, .int x3)] [] (G, M) (dv_v r.1, (G, r.2)) := by
  intro n
  induction n with
  | zero => intro x2 x3 M r h; cases (show (none : Option (Unit × nM)) = some r from h)
  | succ n ih =>
    intro x2 x3 M r h
    exact n_seg (fin := n_fin dv_v G) (K := [(85, fun lv st M => n_lC 107 lv 0 (n_lI lv 2 (fun x2 => n_lI lv 3 (fun x3 => n_pE st (fX12_takesOther_85 N n x2 x3 M)))))]) 27 (iX12_takesOther N hG) (n_kc (fun lv st M r h => by
      obtain ⟨e0, h1⟩ := n_lC_x h
      obtain ⟨x2, e2, h2⟩ := n_lI_x h1
      obtain ⟨x3, e3, h3⟩ := n_lI_x h2
      obtain ⟨rfl, h4⟩ := n_pE_x h3
      exact n_sub (n_qc e0 (n_qc e2 (n_qc e3 n_qe))) (ih x2 x3 M r h4)) n_ke) (by rfl) h
def fX12_takesOther (N : Nat) (x1 : Int32) (x2 : Int32) (M : nM) : Option (Unit × nM) :=
  if ¬ x1 = (3 : Int32) then
    if ¬ x1 = (1 : Int32) then
      fX12_takesOther_85 N N x2 (0 : Int32) M
    else
      fX12_takesOther_47 N N x2 (0 : Int32) M
  else
    fX12_takesOther_7 N N x2 (0 : Int32) M
set_option maxRecDepth 200000 in
theorem bX12_takesOther_0 {l : Launch} {w : nW} (N : Nat) {G : nG} (hG : n_GOK G) (x1 : Int32) (x2 : Int32) (M : nM) (r : Unit × nM) (h : fX12_takesOther N x1 x2 M = some r) : n_At l w 0 mX12_takesOther 0 [(0, .ref 107), (1, .int x1), (2, .int x2)] [] (G, M) (dv_v r.1, (G, r.2)) :=
  n_seg (fin := n_fin dv_v G) (K := [(7, fun lv st M => n_lC 107 lv 0 (n_lI lv 2 (fun x2 => n_lI lv 3 (fun x3 => n_pE st (fX12_takesOther_7 N N x2 x3 M))))), (47, fun lv st M => n_lC 107 lv 0 (n_lI lv 2 (fun x2 => n_lI lv 3 (fun x3 => n_pE st (fX12_takesOther_47 N N x2 x3 M))))), (85, fun lv st M => n_lC 107 lv 0 (n_lI lv 2 (fun x2 => n_lI lv 3 (fun x3 => n_pE st (fX12_takesOther_85 N N x2 x3 M)))))]) 15 (iX12_takesOther N hG) (n_kc (fun lv st M r h => by
      obtain ⟨e0, h1⟩ := n_lC_x h
      obtain ⟨x2, e2, h2⟩ := n_lI_x h1
      obtain ⟨x3, e3, h3⟩ := n_lI_x h2
      obtain ⟨rfl, h4⟩ := n_pE_x h3
      exact n_sub (n_qc e0 (n_qc e2 (n_qc e3 n_qe))) (bX12_takesOther_7 N hG N x2 x3 M r h4)) (n_kc (fun lv st M r h => by
      obtain ⟨e0, h1⟩ := n_lC_x h
      obtain ⟨x2, e2, h2⟩ := n_lI_x h1
      obtain ⟨x3, e3, h3⟩ := n_lI_x h2
      obtain ⟨rfl, h4⟩ := n_pE_x h3
      exact n_sub (n_qc e0 (n_qc e2 (n_qc e3 n_qe))) (bX12_takesOther_47 N hG N x2 x3 M r h4)) (n_kc (fun lv st M r h => by
      obtain ⟨e0, h1⟩ := n_lC_x h
      obtain ⟨x2, e2, h2⟩ := n_lI_x h1
      obtain ⟨x3, e3, h3⟩ := n_lI_x h2
      obtain ⟨rfl, h4⟩ := n_pE_x h3
      exact n_sub (n_qc e0 (n_qc e2 (n_qc e3 n_qe))) (bX12_takesOther_85 N hG N x2 x3 M r h4)) n_ke))) (by rfl) h
theorem eX12_takesOther {l : Launch} {w : nW} (N : Nat) {G : nG} (hG : n_GOK G) (z1 : Int32) (z2 : Int32) (M : nM) (r : Unit × nM) (h : fX12_takesOther N z1 z2 M = some r) : n_Met l w 0 mX12_takesOther [.ref 107, .int z1, .int z2] (G, M) (dv_v r.1, (G, r.2)) :=
  n_entry (by decide +kernel) rfl (Nat.le_of_ble_eq_true rfl) (n_sub (lv := [(0, .ref 107), (1, .int z1), (2, .int z2)]) (n_qc rfl (n_qc rfl (n_qc rfl n_qe))) (bX12_takesOther_0 N hG z1 z2 M r h))
abbrev hX12_takesOther (N : Nat) : nF := fun T as M k => n_pC 107 as (fun as => n_pI as (fun z1 as => n_pI as (fun z2 as => n_pE as ((fX12_takesOther N z1 z2 M).bind fun p => k (dv_v p.1) p.2))))
theorem csX12_takesOther {l : Launch} {w : nW} (N : Nat) {G : nG} (hG : n_GOK G) : n_CS l w 0 mX12_takesOther G (hX12_takesOther N) := fun T as M k r h => by
  obtain ⟨t0, rfl, h1⟩ := n_pC_x h
  obtain ⟨z1, t1, rfl, h2⟩ := n_pI_x h1
  obtain ⟨z2, t2, rfl, h3⟩ := n_pI_x h2
  obtain ⟨rfl, hE⟩ := n_pE_x h3
  obtain ⟨p, hp, hk⟩ := Option.bind_eq_some_iff.mp hE
  exact ⟨_, _, eX12_takesOther N hG z1 z2 M p hp, hk⟩
/-! ===== SleightHouseModel.text(I)I ===== -/
def mX12_text : nY := (RX12, yX12_text, cX12_text, 3, some .int)
theorem okX12_text : n_MOK mX12_text 1 := ⟨w_1700, w_151, ⟨by decide +kernel, by decide +kernel, by decide +kernel⟩, by decide⟩
abbrev aX12_text (N : Nat) : List (Nat × nO (Int32 × nM)) := [(0, o_aload 0 1), (1, o_push (.int (0 : Int32)) 2), (2, o_pIc 107 0 5), (5, o_aload 0 6), (6, o_push (.int (0 : Int32)) 7), (7, o_pIc 107 35 10), (10, o_aload 0 11), (11, o_push (.int (-1 : Int32)) 12), (12, o_pIc 107 36 15), (15, o_aload 0 16), (16, o_push (.int (0 : Int32)) 17), (17, o_pIc 107 16 20), (20, o_aload 0 21), (21, o_push (.int (0 : Int32)) 22), (22, o_pIc 107 29 25), (25, o_aload 0 26), (26, o_push (.int (0 : Int32)) 27), (27, o_pIc 107 30 30), (30, o_push (.int (-1 : Int32)) 31), (31, o_istore 3 2 32), (32, o_aload 0 33), (33, o_iload 1 34), (34, o_push (.int (0 : Int32)) 35), (35, o_push (.int (3 : Int32)) 36), (36, o_callVc 107 3 (hX12_isIn) 39), (39, oi_eq 69 42), (42, o_aload 0 43), (43, o_iload 1 44), (44, o_callVc 107 1 (hX12_readsText N) 47), (47, o_istore 3 2 48), (48, o_iload 2 49), (49, o_push (.int (-1 : Int32)) 50), (50, oc_ne 69 53), (53, o_aload 0 54), (54, o_aload 0 55), (55, o_gIc 107 33 58), (58, o_pIc 107 35 61), (61, o_aload 0 62), (62, o_aload 0 63), (63, o_gIc 107 34 66), (66, o_pIc 107 36 69), (69, o_aload 0 70), (70, o_push (.int (0 : Int32)) 71), (71, o_pIc 107 15 74), (74, o_iload 2 75), (75, o_push (.int (-1 : Int32)) 76), (76, oc_ne 81 79), (79, o_push (.int (-1 : Int32)) 80), (80, o_iret), (81, o_iload 1 82), (82, oi_ne 93 85), (85, o_aload 0 86), (86, o_iload 2 87), (87, o_callVc 107 1 (hX12_takesLaw N) 90), (90, o_goto 99), (93, o_aload 0 94), (94, o_iload 1 95), (95, o_iload 2 96), (96, o_callVc 107 2 (hX12_takesOther N) 99), (99, o_iload 2 100), (100, o_iret)]
set_option maxRecDepth 200000 in
theorem iX12_text {l : Launch} {w : nW} (N : Nat) {G : nG} (hG : n_GOK G) : n_AllS l w 10 mX12_text G (n_fin dv_i G) (aX12_text N) :=
  n_c (s_aload_n (pc := 0) (k := 0) (by decide +kernel)) <|
  n_c (s_iconst (pc := 1) (n := 0) (by decide +kernel) (by decide +kernel)) <|
  n_c (s_pIc (s_putI (pc := 2) (ci := 12) (k := 0) (idx := 146) nok12 (by decide) rfl rfl (by decide +kernel) w_1407) (gk107 hG)) <|
  n_c (s_aload_n (pc := 5) (k := 0) (by decide +kernel)) <|
  n_c (s_iconst (pc := 6) (n := 0) (by decide +kernel) (by decide +kernel)) <|
  n_c (s_pIc (s_putI (pc := 7) (ci := 12) (k := 35) (idx := 329) nok12 (by decide) rfl rfl (by decide +kernel) w_1442) (gk107 hG)) <|
  n_c (s_aload_n (pc := 10) (k := 0) (by decide +kernel)) <|
  n_c (s_iconst (pc := 11) (n := -1) (by decide +kernel) (by decide +kernel)) <|
  n_c (s_pIc (s_putI (pc := 12) (ci := 12) (k := 36) (idx := 67) nok12 (by decide) rfl rfl (by decide +kernel) w_1443) (gk107 hG)) <|
  n_c (s_aload_n (pc := 15) (k := 0) (by decide +kernel)) <|
  n_c (s_iconst (pc := 16) (n := 0) (by decide +kernel) (by decide +kernel)) <|
  n_c (s_pIc (s_putI (pc := 17) (ci := 12) (k := 16) (idx := 195) nok12 (by decide) rfl rfl (by decide +kernel) w_1423) (gk107 hG)) <|
  n_c (s_aload_n (pc := 20) (k := 0) (by decide +kernel)) <|
  n_c (s_iconst (pc := 21) (n := 0) (by decide +kernel) (by decide +kernel)) <|
  n_c (s_pIc (s_putI (pc := 22) (ci := 12) (k := 29) (idx := 229) nok12 (by decide) rfl rfl (by decide +kernel) w_1436) (gk107 hG)) <|
  n_c (s_aload_n (pc := 25) (k := 0) (by decide +kernel)) <|
  n_c (s_iconst (pc := 26) (n := 0) (by decide +kernel) (by decide +kernel)) <|
  n_c (s_pIc (s_putI (pc := 27) (ci := 12) (k := 30) (idx := 261) nok12 (by decide) rfl rfl (by decide +kernel) w_1437) (gk107 hG)) <|
  n_c (s_iconst (pc := 30) (n := -1) (by decide +kernel) (by decide +kernel)) <|
  n_c (s_istore_n (pc := 31) (k := 2) (by decide +kernel)) <|
  n_c (s_aload_n (pc := 32) (k := 0) (by decide +kernel)) <|
  n_c (s_iload_n (pc := 33) (k := 1) (by decide +kernel)) <|
  n_c (s_iconst (pc := 34) (n := 0) (by decide +kernel) (by decide +kernel)) <|
  n_c (s_iconst (pc := 35) (n := 3) (by decide +kernel) (by decide +kernel)) <|
  n_c (s_callVc (s_callV (pc := 36) (csX12_isIn) (by decide) okX12_isIn nok12 w_1659 w_46 w_1657 (by decide +kernel)) (gk107 hG)) <|
  n_c (s_if_eq (pc := 39) (off := 30) (by decide +kernel) (by decide +kernel)) <|
  n_c (s_aload_n (pc := 42) (k := 0) (by decide +kernel)) <|
  n_c (s_iload_n (pc := 43) (k := 1) (by decide +kernel)) <|
  n_c (s_callVc (s_callV (pc := 44) (csX12_readsText N hG) (by decide) okX12_readsText nok12 w_1703 w_52 w_1701 (by decide +kernel)) (gk107 hG)) <|
  n_c (s_istore_n (pc := 47) (k := 2) (by decide +kernel)) <|
  n_c (s_iload_n (pc := 48) (k := 2) (by decide +kernel)) <|
  n_c (s_iconst (pc := 49) (n := -1) (by decide +kernel) (by decide +kernel)) <|
  n_c (s_icmp_ne (pc := 50) (off := 19) (by decide +kernel) (by decide +kernel)) <|
  n_c (s_aload_n (pc := 53) (k := 0) (by decide +kernel)) <|
  n_c (s_aload_n (pc := 54) (k := 0) (by decide +kernel)) <|
  n_c (s_gIc (s_getI (pc := 55) (ci := 12) (k := 33) (idx := 223) nok12 (by decide) rfl (by decide +kernel) w_1440) (gk107 hG)) <|
  n_c (s_pIc (s_putI (pc := 58) (ci := 12) (k := 35) (idx := 329) nok12 (by decide) rfl rfl (by decide +kernel) w_1442) (gk107 hG)) <|
  n_c (s_aload_n (pc := 61) (k := 0) (by decide +kernel)) <|
  n_c (s_aload_n (pc := 62) (k := 0) (by decide +kernel)) <|
  n_c (s_gIc (s_getI (pc := 63) (ci := 12) (k := 34) (idx := 226) nok12 (by decide) rfl (by decide +kernel) w_1441) (gk107 hG)) <|
  n_c (s_pIc (s_putI (pc := 66) (ci := 12) (k := 36) (idx := 67) nok12 (by decide) rfl rfl (by decide +kernel) w_1443) (gk107 hG)) <|
  n_c (s_aload_n (pc := 69) (k := 0) (by decide +kernel)) <|
  n_c (s_iconst (pc := 70) (n := 0) (by decide +kernel) (by decide +kernel)) <|
  n_c (s_pIc (s_putI (pc := 71) (ci := 12) (k := 15) (idx := 188) nok12 (by decide) rfl rfl (by decide +kernel) w_1422) (gk107 hG)) <|
  n_c (s_iload_n (pc := 74) (k := 2) (by decide +kernel)) <|
  n_c (s_iconst (pc := 75) (n := -1) (by decide +kernel) (by decide +kernel)) <|
  n_c (s_icmp_ne (pc := 76) (off := 5) (by decide +kernel) (by decide +kernel)) <|
  n_c (s_iconst (pc := 79) (n := -1) (by decide +kernel) (by decide +kernel)) <|
  n_c (s_iret (pc := 80) rfl (by decide +kernel)) <|
  n_c (s_iload_n (pc := 81) (k := 1) (by decide +kernel)) <|
  n_c (s_if_ne (pc := 82) (off := 11) (by decide +kernel) (by decide +kernel)) <|
  n_c (s_aload_n (pc := 85) (k := 0) (by decide +kernel)) <|
  n_c (s_iload_n (pc := 86) (k := 2) (by decide +kernel)) <|
  n_c (s_callVc (s_callV (pc := 87) (csX12_takesLaw N hG) (by decide) okX12_takesLaw nok12 w_1827 w_83 w_1825 (by decide +kernel)) (gk107 hG)) <|
  n_c (s_goto (pc := 90) (off := 9) (by decide +kernel) (by decide +kernel)) <|
  n_c (s_aload_n (pc := 93) (k := 0) (by decide +kernel)) <|
  n_c (s_iload_n (pc := 94) (k := 1) (by decide +kernel)) <|
  n_c (s_iload_n (pc := 95) (k := 2) (by decide +kernel)) <|
  n_c (s_callVc (s_callV (pc := 96) (csX12_takesOther N hG) (by decide) okX12_takesOther nok12 w_1831 w_84 w_1829 (by decide +kernel)) (gk107 hG)) <|
  n_c (s_iload_n (pc := 99) (k := 2) (by decide +kernel)) <|
  n_c (s_iret (pc := 100) rfl (by decide +kernel)) <|
  n_e
def fX12_text_69 (N : Nat) (x1 : Int32) (x2 : Int32) (M : nM) : Option (Int32 × nM) :=
  let M1 : nM := n_up M 107 15 (0 : Int32)
  if ¬ x2 = (-1 : Int32) then
    if ¬ x1 = 0 then
      (fX12_takesOther N x1 x2 M1).bind fun p2 =>
      some (x2, p2.2)
    else
      (fX12_takesLaw N x2 M1).bind fun p3 =>
      some (x2, p3.2)
  else
    some ((-1 : Int32), M1)
set_option maxRecDepth 200000 in
theorem bX12_text_69 {l : Launch} {w : nW} (N : Nat) {G : nG} (hG : n_GOK G) (x1 : Int32) (x2 : Int32) (M : nM) (r : Int32 × nM) (h : fX12_text_69 N x1 x2 M = some r) : n_At l w 10 mX12_text 69 [(0, .ref 107), (1, .int x1), (2, .int x2)] [] (G, M) (dv_i r.1, (G, r.2)) :=
  n_seg (fin := n_fin dv_i G) (K := []) 25 (iX12_text N hG) n_ke (by rfl) h
def fX12_text (N : Nat) (x1 : Int32) (M : nM) : Option (Int32 × nM) :=
  let M1 : nM := n_up M 107 0 (0 : Int32)
  let M2 : nM := n_up M1 107 35 (0 : Int32)
  let M3 : nM := n_up M2 107 36 (-1 : Int32)
  let M4 : nM := n_up M3 107 16 (0 : Int32)
  let M5 : nM := n_up M4 107 29 (0 : Int32)
  let M6 : nM := n_up M5 107 30 (0 : Int32)
  (fX12_isIn x1 (0 : Int32) (3 : Int32) M6).bind fun p7 =>
  if p7.1 = 0 then
    fX12_text_69 N x1 (-1 : Int32) p7.2
  else
    (fX12_readsText N x1 p7.2).bind fun p8 =>
    if ¬ p8.1 = (-1 : Int32) then
      fX12_text_69 N x1 p8.1 p8.2
    else
      let M9 : nM := n_up p8.2 107 35 (p8.2 107 33)
      let M10 : nM := n_up M9 107 36 (M9 107 34)
      fX12_text_69 N x1 p8.1 M10
set_option maxRecDepth 200000 in
theorem bX12_text_0 {l : Launch} {w : nW} (N : Nat) {G : nG} (hG : n_GOK G) (x1 : Int32) (M : nM) (r : Int32 × nM) (h : fX12_text N x1 M = some r) : n_At l w 10 mX12_text 0 [(0, .ref 107), (1, .int x1)] [] (G, M) (dv_i r.1, (G, r.2)) :=
  n_seg (fin := n_fin dv_i G) (K := [(69, fun lv st M => n_lC 107 lv 0 (n_lI lv 1 (fun x1 => n_lI lv 2 (fun x2 => n_pE st (fX12_text_69 N x1 x2 M)))))]) 44 (iX12_text N hG) (n_kc (fun lv st M r h => by
      obtain ⟨e0, h1⟩ := n_lC_x h
      obtain ⟨x1, e1, h2⟩ := n_lI_x h1
      obtain ⟨x2, e2, h3⟩ := n_lI_x h2
      obtain ⟨rfl, h4⟩ := n_pE_x h3
      exact n_sub (n_qc e0 (n_qc e1 (n_qc e2 n_qe))) (bX12_text_69 N hG x1 x2 M r h4)) n_ke) (by rfl) h
theorem eX12_text {l : Launch} {w : nW} (N : Nat) {G : nG} (hG : n_GOK G) (z1 : Int32) (M : nM) (r : Int32 × nM) (h : fX12_text N z1 M = some r) : n_Met l w 10 mX12_text [.ref 107, .int z1] (G, M) (dv_i r.1, (G, r.2)) :=
  n_entry (by decide +kernel) rfl (Nat.le_of_ble_eq_true rfl) (n_sub (lv := [(0, .ref 107), (1, .int z1)]) (n_qc rfl (n_qc rfl n_qe)) (bX12_text_0 N hG z1 M r h))
abbrev hX12_text (N : Nat) : nF := fun T as M k => n_pC 107 as (fun as => n_pI as (fun z1 as => n_pE as ((fX12_text N z1 M).bind fun p => k (dv_i p.1) p.2)))
theorem csX12_text {l : Launch} {w : nW} (N : Nat) {G : nG} (hG : n_GOK G) : n_CS l w 10 mX12_text G (hX12_text N) := fun T as M k r h => by
  obtain ⟨t0, rfl, h1⟩ := n_pC_x h
  obtain ⟨z1, t1, rfl, h2⟩ := n_pI_x h1
  obtain ⟨rfl, hE⟩ := n_pE_x h2
  obtain ⟨p, hp, hk⟩ := Option.bind_eq_some_iff.mp hE
  exact ⟨_, _, eX12_text N hG z1 M p hp, hk⟩
/-! ===== SleightHouse.fault(I)I ===== -/
def mX11_fault : nY := (RX11, yX11_fault, cX11_fault, 2, some .int)
theorem okX11_fault : n_MOK mX11_fault 1 := ⟨w_1068, w_137, ⟨by decide +kernel, by decide +kernel, by decide +kernel⟩, by decide⟩
abbrev aX11_fault : List (Nat × nO (Int32 × nM)) := [(0, o_iload 1 1), (1, oi_ne 12 4), (4, o_aload 0 5), (5, o_gRc 1 80 8), (8, o_gIc 80 10 11), (11, o_iret), (12, o_iload 1 13), (13, o_push (.int (1 : Int32)) 14), (14, oc_ne 27 17), (17, o_aload 0 18), (18, o_gRc 1 80 21), (21, o_gIc 80 11 24), (24, o_goto 28), (27, o_push (.int (-1 : Int32)) 28), (28, o_iret)]
set_option maxRecDepth 200000 in
theorem iX11_fault {l : Launch} {w : nW} {G : nG} (hG : n_GOK G) : n_AllS l w 0 mX11_fault G (n_fin dv_i G) (aX11_fault) :=
  n_c (s_iload_n (pc := 0) (k := 1) (by decide +kernel)) <|
  n_c (s_if_ne (pc := 1) (off := 11) (by decide +kernel) (by decide +kernel)) <|
  n_c (s_aload_n (pc := 4) (k := 0) (by decide +kernel)) <|
  n_c (s_gRc (s_getR (pc := 5) (ci := 11) (k := 3) (idx := 41) nok11 (by decide) rfl (by decide +kernel) w_575) (gk1 hG) (gm1_3 hG)) <|
  n_c (s_gIc (s_getI (pc := 8) (ci := 6) (k := 10) (idx := 229) nok6 (by decide) rfl (by decide +kernel) w_500) (gk80 hG)) <|
  n_c (s_iret (pc := 11) rfl (by decide +kernel)) <|
  n_c (s_iload_n (pc := 12) (k := 1) (by decide +kernel)) <|
  n_c (s_iconst (pc := 13) (n := 1) (by decide +kernel) (by decide +kernel)) <|
  n_c (s_icmp_ne (pc := 14) (off := 13) (by decide +kernel) (by decide +kernel)) <|
  n_c (s_aload_n (pc := 17) (k := 0) (by decide +kernel)) <|
  n_c (s_gRc (s_getR (pc := 18) (ci := 11) (k := 3) (idx := 41) nok11 (by decide) rfl (by decide +kernel) w_575) (gk1 hG) (gm1_3 hG)) <|
  n_c (s_gIc (s_getI (pc := 21) (ci := 6) (k := 11) (idx := 232) nok6 (by decide) rfl (by decide +kernel) w_502) (gk80 hG)) <|
  n_c (s_goto (pc := 24) (off := 4) (by decide +kernel) (by decide +kernel)) <|
  n_c (s_iconst (pc := 27) (n := -1) (by decide +kernel) (by decide +kernel)) <|
  n_c (s_iret (pc := 28) rfl (by decide +kernel)) <|
  n_e
def fX11_fault (x1 : Int32) (M : nM) : Option (Int32 × nM) :=
  if ¬ x1 = 0 then
    if ¬ x1 = (1 : Int32) then
      some ((-1 : Int32), M)
    else
      some ((M 80 11), M)
  else
    some ((M 80 10), M)
set_option maxRecDepth 200000 in
theorem bX11_fault_0 {l : Launch} {w : nW} {G : nG} (hG : n_GOK G) (x1 : Int32) (M : nM) (r : Int32 × nM) (h : fX11_fault x1 M = some r) : n_At l w 0 mX11_fault 0 [(0, .ref 1), (1, .int x1)] [] (G, M) (dv_i r.1, (G, r.2)) :=
  n_seg (fin := n_fin dv_i G) (K := []) 19 (iX11_fault hG) n_ke (by rfl) h
theorem eX11_fault {l : Launch} {w : nW} {G : nG} (hG : n_GOK G) (z1 : Int32) (M : nM) (r : Int32 × nM) (h : fX11_fault z1 M = some r) : n_Met l w 0 mX11_fault [.ref 1, .int z1] (G, M) (dv_i r.1, (G, r.2)) :=
  n_entry (by decide +kernel) rfl (Nat.le_of_ble_eq_true rfl) (n_sub (lv := [(0, .ref 1), (1, .int z1)]) (n_qc rfl (n_qc rfl n_qe)) (bX11_fault_0 hG z1 M r h))
abbrev hX11_fault : nF := fun T as M k => n_pC 1 as (fun as => n_pI as (fun z1 as => n_pE as ((fX11_fault z1 M).bind fun p => k (dv_i p.1) p.2)))
theorem csX11_fault {l : Launch} {w : nW} {G : nG} (hG : n_GOK G) : n_CS l w 0 mX11_fault G (hX11_fault) := fun T as M k r h => by
  obtain ⟨t0, rfl, h1⟩ := n_pC_x h
  obtain ⟨z1, t1, rfl, h2⟩ := n_pI_x h1
  obtain ⟨rfl, hE⟩ := n_pE_x h2
  obtain ⟨p, hp, hk⟩ := Option.bind_eq_some_iff.mp hE
  exact ⟨_, _, eX11_fault hG z1 M p hp, hk⟩
/-! ===== SleightHouseModel.fault(I)I ===== -/
def mX12_fault : nY := (RX12, yX12_fault, cX12_fault, 2, some .int)
theorem okX12_fault : n_MOK mX12_fault 1 := ⟨w_1836, w_151, ⟨by decide +kernel, by decide +kernel, by decide +kernel⟩, by decide⟩
abbrev aX12_fault : List (Nat × nO (Int32 × nM)) := [(0, o_aload 0 1), (1, o_push (.int (0 : Int32)) 2), (2, o_pIc 107 0 5), (5, o_iload 1 6), (6, oi_ne 16 9), (9, o_aload 0 10), (10, o_gIc 107 35 13), (13, o_goto 29), (16, o_iload 1 17), (17, o_push (.int (1 : Int32)) 18), (18, oc_ne 28 21), (21, o_aload 0 22), (22, o_gIc 107 36 25), (25, o_goto 29), (28, o_push (.int (-1 : Int32)) 29), (29, o_iret)]
set_option maxRecDepth 200000 in
theorem iX12_fault {l : Launch} {w : nW} {G : nG} (hG : n_GOK G) : n_AllS l w 0 mX12_fault G (n_fin dv_i G) (aX12_fault) :=
  n_c (s_aload_n (pc := 0) (k := 0) (by decide +kernel)) <|
  n_c (s_iconst (pc := 1) (n := 0) (by decide +kernel) (by decide +kernel)) <|
  n_c (s_pIc (s_putI (pc := 2) (ci := 12) (k := 0) (idx := 146) nok12 (by decide) rfl rfl (by decide +kernel) w_1407) (gk107 hG)) <|
  n_c (s_iload_n (pc := 5) (k := 1) (by decide +kernel)) <|
  n_c (s_if_ne (pc := 6) (off := 10) (by decide +kernel) (by decide +kernel)) <|
  n_c (s_aload_n (pc := 9) (k := 0) (by decide +kernel)) <|
  n_c (s_gIc (s_getI (pc := 10) (ci := 12) (k := 35) (idx := 329) nok12 (by decide) rfl (by decide +kernel) w_1442) (gk107 hG)) <|
  n_c (s_goto (pc := 13) (off := 16) (by decide +kernel) (by decide +kernel)) <|
  n_c (s_iload_n (pc := 16) (k := 1) (by decide +kernel)) <|
  n_c (s_iconst (pc := 17) (n := 1) (by decide +kernel) (by decide +kernel)) <|
  n_c (s_icmp_ne (pc := 18) (off := 10) (by decide +kernel) (by decide +kernel)) <|
  n_c (s_aload_n (pc := 21) (k := 0) (by decide +kernel)) <|
  n_c (s_gIc (s_getI (pc := 22) (ci := 12) (k := 36) (idx := 67) nok12 (by decide) rfl (by decide +kernel) w_1443) (gk107 hG)) <|
  n_c (s_goto (pc := 25) (off := 4) (by decide +kernel) (by decide +kernel)) <|
  n_c (s_iconst (pc := 28) (n := -1) (by decide +kernel) (by decide +kernel)) <|
  n_c (s_iret (pc := 29) rfl (by decide +kernel)) <|
  n_e
def fX12_fault (x1 : Int32) (M : nM) : Option (Int32 × nM) :=
  let M1 : nM := n_up M 107 0 (0 : Int32)
  if ¬ x1 = 0 then
    if ¬ x1 = (1 : Int32) then
      some ((-1 : Int32), M1)
    else
      some ((M1 107 36), M1)
  else
    some ((M1 107 35), M1)
set_option maxRecDepth 200000 in
theorem bX12_fault_0 {l : Launch} {w : nW} {G : nG} (hG : n_GOK G) (x1 : Int32) (M : nM) (r : Int32 × nM) (h : fX12_fault x1 M = some r) : n_At l w 0 mX12_fault 0 [(0, .ref 107), (1, .int x1)] [] (G, M) (dv_i r.1, (G, r.2)) :=
  n_seg (fin := n_fin dv_i G) (K := []) 21 (iX12_fault hG) n_ke (by rfl) h
theorem eX12_fault {l : Launch} {w : nW} {G : nG} (hG : n_GOK G) (z1 : Int32) (M : nM) (r : Int32 × nM) (h : fX12_fault z1 M = some r) : n_Met l w 0 mX12_fault [.ref 107, .int z1] (G, M) (dv_i r.1, (G, r.2)) :=
  n_entry (by decide +kernel) rfl (Nat.le_of_ble_eq_true rfl) (n_sub (lv := [(0, .ref 107), (1, .int z1)]) (n_qc rfl (n_qc rfl n_qe)) (bX12_fault_0 hG z1 M r h))
abbrev hX12_fault : nF := fun T as M k => n_pC 107 as (fun as => n_pI as (fun z1 as => n_pE as ((fX12_fault z1 M).bind fun p => k (dv_i p.1) p.2)))
theorem csX12_fault {l : Launch} {w : nW} {G : nG} (hG : n_GOK G) : n_CS l w 0 mX12_fault G (hX12_fault) := fun T as M k r h => by
  obtain ⟨t0, rfl, h1⟩ := n_pC_x h
  obtain ⟨z1, t1, rfl, h2⟩ := n_pI_x h1
  obtain ⟨rfl, hE⟩ := n_pE_x h2
  obtain ⟨p, hp, hk⟩ := Option.bind_eq_some_iff.mp hE
  exact ⟨_, _, eX12_fault hG z1 M p hp, hk⟩
/-! ===== SleightHouse$Doings.thingsIn(LSleightHouse$Moving;I)I ===== -/
def mX0_thingsIn : nY := (RX0, yX0_thingsIn, cX0_thingsIn, 5, some .int)
theorem okX0_thingsIn : n_MOK mX0_thingsIn 2 := ⟨w_1078, w_146, ⟨by decide +kernel, by decide +kernel, by decide +kernel⟩, by decide⟩
abbrev aX0_thingsIn (N : Nat) : List (Nat × nO (Int32 × nM)) := [(0, o_push (.int (0 : Int32)) 1), (1, o_istore 5 3 2), (2, o_push (.int (0 : Int32)) 3), (3, o_istore 5 4 5), (5, o_iload 4 7), (7, o_aload 0 8), (8, o_gRc 45 2 11), (11, o_gRc 2 3 14), (14, o_gIc 3 5 17), (17, oc_ge 45 20), (20, o_aload 1 21), (21, o_gRc 9 10 24), (24, o_iload 4 26), (26, o_aldc 10 16 27), (27, o_iload 2 28), (28, oc_ne 39 31), (31, o_iload 3 32), (32, o_iload 4 34), (34, o_push (.int (1 : Int32)) 35), (35, o_call 3 (hX4_withBit) 38), (38, o_istore 5 3 39), (39, o_inc 5 4 (1 : Int32) 42), (42, o_goto 5), (45, o_iload 3 46), (46, o_iret)]
set_option maxRecDepth 200000 in
theorem iX0_thingsIn {l : Launch} {w : nW} (N : Nat) {G : nG} (hG : n_GOK G) : n_AllS l w 1 mX0_thingsIn G (n_fin dv_i G) (aX0_thingsIn N) :=
  n_c (s_iconst (pc := 0) (n := 0) (by decide +kernel) (by decide +kernel)) <|
  n_c (s_istore_n (pc := 1) (k := 3) (by decide +kernel)) <|
  n_c (s_iconst (pc := 2) (n := 0) (by decide +kernel) (by decide +kernel)) <|
  n_c (s_istore (pc := 3) (by decide +kernel)) <|
  n_c (s_iload (pc := 5) (by decide +kernel)) <|
  n_c (s_aload_n (pc := 7) (k := 0) (by decide +kernel)) <|
  n_c (s_gRc (s_getR (pc := 8) (ci := 0) (k := 0) (idx := 20) nok0 (by decide) rfl (by decide +kernel) w_446) (gk45 hG) (gm45_0 hG)) <|
  n_c (s_gRc (s_getR (pc := 11) (ci := 1) (k := 0) (idx := 24) nok1 (by decide) rfl (by decide +kernel) w_404) (gk2 hG) (gm2_0 hG)) <|
  n_c (s_gIc (s_getI (pc := 14) (ci := 8) (k := 5) (idx := 30) nok8 (by decide) rfl (by decide +kernel) w_198) (gk3 hG)) <|
  n_c (s_icmp_ge (pc := 17) (off := 28) (by decide +kernel) (by decide +kernel)) <|
  n_c (s_aload_n (pc := 20) (k := 1) (by decide +kernel)) <|
  n_c (s_gRc (s_getR (pc := 21) (ci := 4) (k := 1) (idx := 36) nok4 (by decide) rfl (by decide +kernel) w_231) (gk9 hG) (gm9_1 hG)) <|
  n_c (s_iload (pc := 24) (by decide +kernel)) <|
  n_c (s_aldc (s_iaload (pc := 26) (by decide +kernel)) (gk10 hG) (gl10 hG)) <|
  n_c (s_iload_n (pc := 27) (k := 2) (by decide +kernel)) <|
  n_c (s_icmp_ne (pc := 28) (off := 11) (by decide +kernel) (by decide +kernel)) <|
  n_c (s_iload_n (pc := 31) (k := 3) (by decide +kernel)) <|
  n_c (s_iload (pc := 32) (by decide +kernel)) <|
  n_c (s_iconst (pc := 34) (n := 1) (by decide +kernel) (by decide +kernel)) <|
  n_c (s_callS (pc := 35) (csX4_withBit) (by decide) okX4_withBit w_625 w_704 (by decide +kernel)) <|
  n_c (s_istore_n (pc := 38) (k := 3) (by decide +kernel)) <|
  n_c (s_iinc (pc := 39) (n := 1) (by decide +kernel) (by decide +kernel)) <|
  n_c (s_goto (pc := 42) (off := -37) (by decide +kernel) (by decide +kernel)) <|
  n_c (s_iload_n (pc := 45) (k := 3) (by decide +kernel)) <|
  n_c (s_iret (pc := 46) rfl (by decide +kernel)) <|
  n_e
def fX0_thingsIn_5 (N : Nat) : Nat → Int32 → Int32 → Int32 → nM → Option (Int32 × nM)
  | 0, _, _, _, _ => none
  | n + 1, x2, x3, x4, M =>
    if (M 3 5) ≤ x4 then
      some (x3, M)
    else
      n_chk (n_ib 16 x4) <|
      if ¬ (M 10 x4.toNatClampNeg) = x2 then
        let v1 : Int32 := (x4 + (1 : Int32))
        fX0_thingsIn_5 N n x2 x3 v1 M
      else
        (fX4_withBit x3 x4 (1 : Int32) M).bind fun p2 =>
        let v3 : Int32 := (x4 + (1 : Int32))
        fX0_thingsIn_5 N n x2 p2.1 v3 p2.2
set_option maxRecDepth 200000 in
theorem bX0_thingsIn_5 {l : Launch} {w : nW} (N : Nat) {G : nG} (hG : n_GOK G) : ∀ (n : Nat) (x2 : Int32) (x3 : Int32) (x4 : Int32) (M : nM) (r : Int32 × nM), fX0_thingsIn_5 N n x2 x3 x4 M = some r → n_At l w 1 mX0_thingsIn 5 [(0, .ref 45), (1, .ref 9), (2, .int x2), (3, .int x3), (4, .int x4)] [] (G, M) (dv_i r.1, (G, r.2)) := by
  intro n
  induction n with
  | zero => intro x2 x3 x4 M r h; cases (show (none : Option (Int32 × nM)) = some r from h)
  | succ n ih =>
    intro x2 x3 x4 M r h
    exact n_seg (fin := n_fin dv_i G) (K := [(5, fun lv st M => n_lC 45 lv 0 (n_lC 9 lv 1 (n_lI lv 2 (fun x2 => n_lI lv 3 (fun x3 => n_lI lv 4 (fun x4 => n_pE st (fX0_thingsIn_5 N n x2 x3 x4 M)))))))]) 26 (iX0_thingsIn N hG) (n_kc (fun lv st M r h => by
      obtain ⟨e0, h1⟩ := n_lC_x h
      obtain ⟨e1, h2⟩ := n_lC_x h1
      obtain ⟨x2, e2, h3⟩ := n_lI_x h2
      obtain ⟨x3, e3, h4⟩ := n_lI_x h3
      obtain ⟨x4, e4, h5⟩ := n_lI_x h4
      obtain ⟨rfl, h6⟩ := n_pE_x h5
      exact n_sub (n_qc e0 (n_qc e1 (n_qc e2 (n_qc e3 (n_qc e4 n_qe))))) (ih x2 x3 x4 M r h6)) n_ke) (by rfl) h
def fX0_thingsIn (N : Nat) (x2 : Int32) (M : nM) : Option (Int32 × nM) :=
  fX0_thingsIn_5 N N x2 (0 : Int32) (0 : Int32) M
set_option maxRecDepth 200000 in
theorem bX0_thingsIn_0 {l : Launch} {w : nW} (N : Nat) {G : nG} (hG : n_GOK G) (x2 : Int32) (M : nM) (r : Int32 × nM) (h : fX0_thingsIn N x2 M = some r) : n_At l w 1 mX0_thingsIn 0 [(0, .ref 45), (1, .ref 9), (2, .int x2)] [] (G, M) (dv_i r.1, (G, r.2)) :=
  n_seg (fin := n_fin dv_i G) (K := [(5, fun lv st M => n_lC 45 lv 0 (n_lC 9 lv 1 (n_lI lv 2 (fun x2 => n_lI lv 3 (fun x3 => n_lI lv 4 (fun x4 => n_pE st (fX0_thingsIn_5 N N x2 x3 x4 M)))))))]) 7 (iX0_thingsIn N hG) (n_kc (fun lv st M r h => by
      obtain ⟨e0, h1⟩ := n_lC_x h
      obtain ⟨e1, h2⟩ := n_lC_x h1
      obtain ⟨x2, e2, h3⟩ := n_lI_x h2
      obtain ⟨x3, e3, h4⟩ := n_lI_x h3
      obtain ⟨x4, e4, h5⟩ := n_lI_x h4
      obtain ⟨rfl, h6⟩ := n_pE_x h5
      exact n_sub (n_qc e0 (n_qc e1 (n_qc e2 (n_qc e3 (n_qc e4 n_qe))))) (bX0_thingsIn_5 N hG N x2 x3 x4 M r h6)) n_ke) (by rfl) h
theorem eX0_thingsIn {l : Launch} {w : nW} (N : Nat) {G : nG} (hG : n_GOK G) (z2 : Int32) (M : nM) (r : Int32 × nM) (h : fX0_thingsIn N z2 M = some r) : n_Met l w 1 mX0_thingsIn [.ref 45, .ref 9, .int z2] (G, M) (dv_i r.1, (G, r.2)) :=
  n_entry (by decide +kernel) rfl (Nat.le_of_ble_eq_true rfl) (n_sub (lv := [(0, .ref 45), (1, .ref 9), (2, .int z2)]) (n_qc rfl (n_qc rfl (n_qc rfl n_qe))) (bX0_thingsIn_0 N hG z2 M r h))
abbrev hX0_thingsIn (N : Nat) : nF := fun T as M k => n_pC 45 as (fun as => n_pC 9 as (fun as => n_pI as (fun z2 as => n_pE as ((fX0_thingsIn N z2 M).bind fun p => k (dv_i p.1) p.2))))
theorem csX0_thingsIn {l : Launch} {w : nW} (N : Nat) {G : nG} (hG : n_GOK G) : n_CS l w 1 mX0_thingsIn G (hX0_thingsIn N) := fun T as M k r h => by
  obtain ⟨t0, rfl, h1⟩ := n_pC_x h
  obtain ⟨t1, rfl, h2⟩ := n_pC_x h1
  obtain ⟨z2, t2, rfl, h3⟩ := n_pI_x h2
  obtain ⟨rfl, hE⟩ := n_pE_x h3
  obtain ⟨p, hp, hk⟩ := Option.bind_eq_some_iff.mp hE
  exact ⟨_, _, eX0_thingsIn N hG z2 M p hp, hk⟩
/-! ===== SleightHouse.place(II)I ===== -/
def mX11_place : nY := (RX11, yX11_place, cX11_place, 3, some .int)
theorem okX11_place : n_MOK mX11_place 2 := ⟨w_1072, w_137, ⟨by decide +kernel, by decide +kernel, by decide +kernel⟩, by decide⟩
abbrev aX11_place (N : Nat) (G : nG) : List (Nat × nO (Int32 × nM)) := [(0, o_aload 0 1), (1, o_gRc 1 2 4), (4, o_iload 1 5), (5, o_callVc 2 1 (hX1_hasPlace) 8), (8, oi_ne 13 11), (11, o_push (.int (-1 : Int32)) 12), (12, o_iret), (13, o_iload 2 14), (14, o_sw [((0 : Int32), 48), ((1 : Int32), 61), ((2 : Int32), 76), ((3 : Int32), 89), ((4 : Int32), 105)] 121), (48, o_aload 0 49), (49, o_gRc 1 2 52), (52, o_gRc 2 3 55), (55, o_gRc 3 4 58), (58, o_iload 1 59), (59, o_aldc 4 12 60), (60, o_iret), (61, o_aload 0 62), (62, o_gRc 1 2 65), (65, o_gRc 2 9 68), (68, o_gIc 9 7 71), (71, o_iload 1 72), (72, o_call 2 (hX4_bit) 75), (75, o_iret), (76, o_aload 0 77), (77, o_gRc 1 2 80), (80, o_gRc 2 9 83), (83, o_gRc 9 13 86), (86, o_iload 1 87), (87, o_aldc 13 12 88), (88, o_iret), (89, o_aload 0 90), (90, o_gRc 1 45 93), (93, o_aload 0 94), (94, o_gRc 1 2 97), (97, o_gRc 2 9 100), (100, o_iload 1 101), (101, o_callVc 45 2 (hX0_fullOf N G) 104), (104, o_iret), (105, o_aload 0 106), (106, o_gRc 1 45 109), (109, o_aload 0 110), (110, o_gRc 1 2 113), (113, o_gRc 2 9 116), (116, o_iload 1 117), (117, o_callVc 45 2 (hX0_thingsIn N) 120), (120, o_iret), (121, o_push (.int (-1 : Int32)) 122), (122, o_iret)]
set_option maxRecDepth 200000 in
theorem iX11_place {l : Launch} {w : nW} (N : Nat) {G : nG} (hG : n_GOK G) : n_AllS l w 2 mX11_place G (n_fin dv_i G) (aX11_place N G) :=
  n_c (s_aload_n (pc := 0) (k := 0) (by decide +kernel)) <|
  n_c (s_gRc (s_getR (pc := 1) (ci := 11) (k := 0) (idx := 10) nok11 (by decide) rfl (by decide +kernel) w_572) (gk1 hG) (gm1_0 hG)) <|
  n_c (s_iload_n (pc := 4) (k := 1) (by decide +kernel)) <|
  n_c (s_callVc (s_callV (pc := 5) (csX1_hasPlace) (by decide) okX1_hasPlace nok1 w_613 w_614 w_612 (by decide +kernel)) (gk2 hG)) <|
  n_c (s_if_ne (pc := 8) (off := 5) (by decide +kernel) (by decide +kernel)) <|
  n_c (s_iconst (pc := 11) (n := -1) (by decide +kernel) (by decide +kernel)) <|
  n_c (s_iret (pc := 12) rfl (by decide +kernel)) <|
  n_c (s_iload_n (pc := 13) (k := 2) (by decide +kernel)) <|
  n_c (s_tsw (pc := 14) (dflt := 107) (lo := 0) (hi := 4) (offs := #[34, 47, 62, 75, 91]) (len := 34) (by decide +kernel) (by decide +kernel)) <|
  n_c (s_aload_n (pc := 48) (k := 0) (by decide +kernel)) <|
  n_c (s_gRc (s_getR (pc := 49) (ci := 11) (k := 0) (idx := 10) nok11 (by decide) rfl (by decide +kernel) w_572) (gk1 hG) (gm1_0 hG)) <|
  n_c (s_gRc (s_getR (pc := 52) (ci := 1) (k := 0) (idx := 34) nok1 (by decide) rfl (by decide +kernel) w_403) (gk2 hG) (gm2_0 hG)) <|
  n_c (s_gRc (s_getR (pc := 55) (ci := 8) (k := 0) (idx := 115) nok8 (by decide) rfl (by decide +kernel) w_183) (gk3 hG) (gm3_0 hG)) <|
  n_c (s_iload_n (pc := 58) (k := 1) (by decide +kernel)) <|
  n_c (s_aldc (s_iaload (pc := 59) (by decide +kernel)) (gk4 hG) (gl4 hG)) <|
  n_c (s_iret (pc := 60) rfl (by decide +kernel)) <|
  n_c (s_aload_n (pc := 61) (k := 0) (by decide +kernel)) <|
  n_c (s_gRc (s_getR (pc := 62) (ci := 11) (k := 0) (idx := 10) nok11 (by decide) rfl (by decide +kernel) w_572) (gk1 hG) (gm1_0 hG)) <|
  n_c (s_gRc (s_getR (pc := 65) (ci := 1) (k := 1) (idx := 77) nok1 (by decide) rfl (by decide +kernel) w_406) (gk2 hG) (gm2_1 hG)) <|
  n_c (s_gIc (s_getI (pc := 68) (ci := 4) (k := 7) (idx := 177) nok4 (by decide) rfl (by decide +kernel) w_250) (gk9 hG)) <|
  n_c (s_iload_n (pc := 71) (k := 1) (by decide +kernel)) <|
  n_c (s_callS (pc := 72) (csX4_bit) (by decide) okX4_bit w_678 w_1073 (by decide +kernel)) <|
  n_c (s_iret (pc := 75) rfl (by decide +kernel)) <|
  n_c (s_aload_n (pc := 76) (k := 0) (by decide +kernel)) <|
  n_c (s_gRc (s_getR (pc := 77) (ci := 11) (k := 0) (idx := 10) nok11 (by decide) rfl (by decide +kernel) w_572) (gk1 hG) (gm1_0 hG)) <|
  n_c (s_gRc (s_getR (pc := 80) (ci := 1) (k := 1) (idx := 77) nok1 (by decide) rfl (by decide +kernel) w_406) (gk2 hG) (gm2_1 hG)) <|
  n_c (s_gRc (s_getR (pc := 83) (ci := 4) (k := 4) (idx := 238) nok4 (by decide) rfl (by decide +kernel) w_241) (gk9 hG) (gm9_4 hG)) <|
  n_c (s_iload_n (pc := 86) (k := 1) (by decide +kernel)) <|
  n_c (s_aldc (s_iaload (pc := 87) (by decide +kernel)) (gk13 hG) (gl13 hG)) <|
  n_c (s_iret (pc := 88) rfl (by decide +kernel)) <|
  n_c (s_aload_n (pc := 89) (k := 0) (by decide +kernel)) <|
  n_c (s_gRc (s_getR (pc := 90) (ci := 11) (k := 1) (idx := 21) nok11 (by decide) rfl (by decide +kernel) w_573) (gk1 hG) (gm1_1 hG)) <|
  n_c (s_aload_n (pc := 93) (k := 0) (by decide +kernel)) <|
  n_c (s_gRc (s_getR (pc := 94) (ci := 11) (k := 0) (idx := 10) nok11 (by decide) rfl (by decide +kernel) w_572) (gk1 hG) (gm1_0 hG)) <|
  n_c (s_gRc (s_getR (pc := 97) (ci := 1) (k := 1) (idx := 77) nok1 (by decide) rfl (by decide +kernel) w_406) (gk2 hG) (gm2_1 hG)) <|
  n_c (s_iload_n (pc := 100) (k := 1) (by decide +kernel)) <|
  n_c (s_callVc (s_callV (pc := 101) (csX0_fullOf N hG) (by decide) okX0_fullOf nok0 w_685 w_686 w_1074 (by decide +kernel)) (gk45 hG)) <|
  n_c (s_iret (pc := 104) rfl (by decide +kernel)) <|
  n_c (s_aload_n (pc := 105) (k := 0) (by decide +kernel)) <|
  n_c (s_gRc (s_getR (pc := 106) (ci := 11) (k := 1) (idx := 21) nok11 (by decide) rfl (by decide +kernel) w_573) (gk1 hG) (gm1_1 hG)) <|
  n_c (s_aload_n (pc := 109) (k := 0) (by decide +kernel)) <|
  n_c (s_gRc (s_getR (pc := 110) (ci := 11) (k := 0) (idx := 10) nok11 (by decide) rfl (by decide +kernel) w_572) (gk1 hG) (gm1_0 hG)) <|
  n_c (s_gRc (s_getR (pc := 113) (ci := 1) (k := 1) (idx := 77) nok1 (by decide) rfl (by decide +kernel) w_406) (gk2 hG) (gm2_1 hG)) <|
  n_c (s_iload_n (pc := 116) (k := 1) (by decide +kernel)) <|
  n_c (s_callVc (s_callV (pc := 117) (csX0_thingsIn N hG) (by decide) okX0_thingsIn nok0 w_1076 w_1077 w_1075 (by decide +kernel)) (gk45 hG)) <|
  n_c (s_iret (pc := 120) rfl (by decide +kernel)) <|
  n_c (s_iconst (pc := 121) (n := -1) (by decide +kernel) (by decide +kernel)) <|
  n_c (s_iret (pc := 122) rfl (by decide +kernel)) <|
  n_e
def fX11_place (N : Nat) (G : nG) (x1 : Int32) (x2 : Int32) (M : nM) : Option (Int32 × nM) :=
  (fX1_hasPlace x1 M).bind fun p1 =>
  if ¬ p1.1 = 0 then
    if x2 = (0 : Int32) then
      n_chk (n_ib 12 x1) <|
      some ((p1.2 4 x1.toNatClampNeg), p1.2)
    else
    if x2 = (1 : Int32) then
      (fX4_bit (p1.2 9 7) x1 p1.2).bind fun p2 =>
      some (p2.1, p2.2)
    else
    if x2 = (2 : Int32) then
      n_chk (n_ib 12 x1) <|
      some ((p1.2 13 x1.toNatClampNeg), p1.2)
    else
    if x2 = (3 : Int32) then
      (fX0_fullOf N G 9 x1 p1.2).bind fun p3 =>
      some (p3.1, p3.2)
    else
    if x2 = (4 : Int32) then
      (fX0_thingsIn N x1 p1.2).bind fun p4 =>
      some (p4.1, p4.2)
    else
    some ((-1 : Int32), p1.2)
  else
    some ((-1 : Int32), p1.2)
set_option maxRecDepth 200000 in
theorem bX11_place_0 {l : Launch} {w : nW} (N : Nat) {G : nG} (hG : n_GOK G) (x1 : Int32) (x2 : Int32) (M : nM) (r : Int32 × nM) (h : fX11_place N G x1 x2 M = some r) : n_At l w 2 mX11_place 0 [(0, .ref 1), (1, .int x1), (2, .int x2)] [] (G, M) (dv_i r.1, (G, r.2)) :=
  n_seg (fin := n_fin dv_i G) (K := []) 51 (iX11_place N hG) n_ke (by rfl) h
theorem eX11_place {l : Launch} {w : nW} (N : Nat) {G : nG} (hG : n_GOK G) (z1 : Int32) (z2 : Int32) (M : nM) (r : Int32 × nM) (h : fX11_place N G z1 z2 M = some r) : n_Met l w 2 mX11_place [.ref 1, .int z1, .int z2] (G, M) (dv_i r.1, (G, r.2)) :=
  n_entry (by decide +kernel) rfl (Nat.le_of_ble_eq_true rfl) (n_sub (lv := [(0, .ref 1), (1, .int z1), (2, .int z2)]) (n_qc rfl (n_qc rfl (n_qc rfl n_qe))) (bX11_place_0 N hG z1 z2 M r h))
abbrev hX11_place (N : Nat) (G : nG) : nF := fun T as M k => n_pC 1 as (fun as => n_pI as (fun z1 as => n_pI as (fun z2 as => n_pE as ((fX11_place N G z1 z2 M).bind fun p => k (dv_i p.1) p.2))))
theorem csX11_place {l : Launch} {w : nW} (N : Nat) {G : nG} (hG : n_GOK G) : n_CS l w 2 mX11_place G (hX11_place N G) := fun T as M k r h => by
  obtain ⟨t0, rfl, h1⟩ := n_pC_x h
  obtain ⟨z1, t1, rfl, h2⟩ := n_pI_x h1
  obtain ⟨z2, t2, rfl, h3⟩ := n_pI_x h2
  obtain ⟨rfl, hE⟩ := n_pE_x h3
  obtain ⟨p, hp, hk⟩ := Option.bind_eq_some_iff.mp hE
  exact ⟨_, _, eX11_place N hG z1 z2 M p hp, hk⟩
/-! ===== SleightHouseModel.thingsIn(I)I ===== -/
def mX12_thingsIn : nY := (RX12, yX12_thingsIn, cX12_thingsIn, 4, some .int)
theorem okX12_thingsIn : n_MOK mX12_thingsIn 1 := ⟨w_1954, w_151, ⟨by decide +kernel, by decide +kernel, by decide +kernel⟩, by decide⟩
abbrev aX12_thingsIn (N : Nat) : List (Nat × nO (Int32 × nM)) := [(0, o_push (.int (0 : Int32)) 1), (1, o_istore 4 2 2), (2, o_push (.int (0 : Int32)) 3), (3, o_istore 4 3 4), (4, o_iload 3 5), (5, o_aload 0 6), (6, o_gIc 107 6 9), (9, oc_ge 37 12), (12, o_aload 0 13), (13, o_gRc 107 108 16), (16, o_push (.int (28 : Int32)) 18), (18, o_iload 3 19), (19, o_iadd 20), (20, o_aldc 108 100 21), (21, o_iload 1 22), (22, oc_ne 31 25), (25, o_iload 2 26), (26, o_push (.int (1 : Int32)) 27), (27, o_iload 3 28), (28, o_ishl 29), (29, o_ior 30), (30, o_istore 4 2 31), (31, o_inc 4 3 (1 : Int32) 34), (34, o_goto 4), (37, o_iload 2 38), (38, o_iret)]
set_option maxRecDepth 200000 in
theorem iX12_thingsIn {l : Launch} {w : nW} (N : Nat) {G : nG} (hG : n_GOK G) : n_AllS l w 0 mX12_thingsIn G (n_fin dv_i G) (aX12_thingsIn N) :=
  n_c (s_iconst (pc := 0) (n := 0) (by decide +kernel) (by decide +kernel)) <|
  n_c (s_istore_n (pc := 1) (k := 2) (by decide +kernel)) <|
  n_c (s_iconst (pc := 2) (n := 0) (by decide +kernel) (by decide +kernel)) <|
  n_c (s_istore_n (pc := 3) (k := 3) (by decide +kernel)) <|
  n_c (s_iload_n (pc := 4) (k := 3) (by decide +kernel)) <|
  n_c (s_aload_n (pc := 5) (k := 0) (by decide +kernel)) <|
  n_c (s_gIc (s_getI (pc := 6) (ci := 12) (k := 6) (idx := 158) nok12 (by decide) rfl (by decide +kernel) w_1413) (gk107 hG)) <|
  n_c (s_icmp_ge (pc := 9) (off := 28) (by decide +kernel) (by decide +kernel)) <|
  n_c (s_aload_n (pc := 12) (k := 0) (by decide +kernel)) <|
  n_c (s_gRc (s_getR (pc := 13) (ci := 12) (k := 1) (idx := 7) nok12 (by decide) rfl (by decide +kernel) w_1408) (gk107 hG) (gm107_1 hG)) <|
  n_c (s_bipush (pc := 16) (n := 28) (by decide +kernel) (by decide +kernel)) <|
  n_c (s_iload_n (pc := 18) (k := 3) (by decide +kernel)) <|
  n_c (s_iadd (pc := 19) (by decide +kernel)) <|
  n_c (s_aldc (s_iaload (pc := 20) (by decide +kernel)) (gk108 hG) (gl108 hG)) <|
  n_c (s_iload_n (pc := 21) (k := 1) (by decide +kernel)) <|
  n_c (s_icmp_ne (pc := 22) (off := 9) (by decide +kernel) (by decide +kernel)) <|
  n_c (s_iload_n (pc := 25) (k := 2) (by decide +kernel)) <|
  n_c (s_iconst (pc := 26) (n := 1) (by decide +kernel) (by decide +kernel)) <|
  n_c (s_iload_n (pc := 27) (k := 3) (by decide +kernel)) <|
  n_c (s_ishl (pc := 28) (by decide +kernel)) <|
  n_c (s_ior (pc := 29) (by decide +kernel)) <|
  n_c (s_istore_n (pc := 30) (k := 2) (by decide +kernel)) <|
  n_c (s_iinc (pc := 31) (n := 1) (by decide +kernel) (by decide +kernel)) <|
  n_c (s_goto (pc := 34) (off := -30) (by decide +kernel) (by decide +kernel)) <|
  n_c (s_iload_n (pc := 37) (k := 2) (by decide +kernel)) <|
  n_c (s_iret (pc := 38) rfl (by decide +kernel)) <|
  n_e
def fX12_thingsIn_4 (N : Nat) : Nat → Int32 → Int32 → Int32 → nM → Option (Int32 × nM)
  | 0, _, _, _, _ => none
  | n + 1, x1, x2, x3, M =>
    if (M 107 6) ≤ x3 then
      some (x2, M)
    else
      n_chk (n_ib 100 ((28 : Int32) + x3)) <|
      if ¬ (M 108 ((28 : Int32) + x3).toNatClampNeg) = x1 then
        let v1 : Int32 := (x3 + (1 : Int32))
        fX12_thingsIn_4 N n x1 x2 v1 M
      else
        let v2 : Int32 := (x2 ||| ((1 : Int32) <<< (x3 &&& 31)))
        let v3 : Int32 := (x3 + (1 : Int32))
        fX12_thingsIn_4 N n x1 v2 v3 M
set_option maxRecDepth 200000 in
theorem bX12_thingsIn_4 {l : Launch} {w : nW} (N : Nat) {G : nG} (hG : n_GOK G) : ∀ (n : Nat) (x1 : Int32) (x2 : Int32) (x3 : Int32) (M : nM) (r : Int32 × nM), fX12_thingsIn_4 N n x1 x2 x3 M = some r → n_At l w 0 mX12_thingsIn 4 [(0, .ref 107), (1, .int x1), (2, .int x2), (3, .int x3)] [] (G, M) (dv_i r.1, (G, r.2)) := by
  intro n
  induction n with
  | zero => intro x1 x2 x3 M r h; cases (show (none : Option (Int32 × nM)) = some r from h)
  | succ n ih =>
    intro x1 x2 x3 M r h
    exact n_seg (fin := n_fin dv_i G) (K := [(4, fun lv st M => n_lC 107 lv 0 (n_lI lv 1 (fun x1 => n_lI lv 2 (fun x2 => n_lI lv 3 (fun x3 => n_pE st (fX12_thingsIn_4 N n x1 x2 x3 M))))))]) 27 (iX12_thingsIn N hG) (n_kc (fun lv st M r h => by
      obtain ⟨e0, h1⟩ := n_lC_x h
      obtain ⟨x1, e1, h2⟩ := n_lI_x h1
      obtain ⟨x2, e2, h3⟩ := n_lI_x h2
      obtain ⟨x3, e3, h4⟩ := n_lI_x h3
      obtain ⟨rfl, h5⟩ := n_pE_x h4
      exact n_sub (n_qc e0 (n_qc e1 (n_qc e2 (n_qc e3 n_qe)))) (ih x1 x2 x3 M r h5)) n_ke) (by rfl) h
def fX12_thingsIn (N : Nat) (x1 : Int32) (M : nM) : Option (Int32 × nM) :=
  fX12_thingsIn_4 N N x1 (0 : Int32) (0 : Int32) M
set_option maxRecDepth 200000 in
theorem bX12_thingsIn_0 {l : Launch} {w : nW} (N : Nat) {G : nG} (hG : n_GOK G) (x1 : Int32) (M : nM) (r : Int32 × nM) (h : fX12_thingsIn N x1 M = some r) : n_At l w 0 mX12_thingsIn 0 [(0, .ref 107), (1, .int x1)] [] (G, M) (dv_i r.1, (G, r.2)) :=
  n_seg (fin := n_fin dv_i G) (K := [(4, fun lv st M => n_lC 107 lv 0 (n_lI lv 1 (fun x1 => n_lI lv 2 (fun x2 => n_lI lv 3 (fun x3 => n_pE st (fX12_thingsIn_4 N N x1 x2 x3 M))))))]) 7 (iX12_thingsIn N hG) (n_kc (fun lv st M r h => by
      obtain ⟨e0, h1⟩ := n_lC_x h
      obtain ⟨x1, e1, h2⟩ := n_lI_x h1
      obtain ⟨x2, e2, h3⟩ := n_lI_x h2
      obtain ⟨x3, e3, h4⟩ := n_lI_x h3
      obtain ⟨rfl, h5⟩ := n_pE_x h4
      exact n_sub (n_qc e0 (n_qc e1 (n_qc e2 (n_qc e3 n_qe)))) (bX12_thingsIn_4 N hG N x1 x2 x3 M r h5)) n_ke) (by rfl) h
theorem eX12_thingsIn {l : Launch} {w : nW} (N : Nat) {G : nG} (hG : n_GOK G) (z1 : Int32) (M : nM) (r : Int32 × nM) (h : fX12_thingsIn N z1 M = some r) : n_Met l w 0 mX12_thingsIn [.ref 107, .int z1] (G, M) (dv_i r.1, (G, r.2)) :=
  n_entry (by decide +kernel) rfl (Nat.le_of_ble_eq_true rfl) (n_sub (lv := [(0, .ref 107), (1, .int z1)]) (n_qc rfl (n_qc rfl n_qe)) (bX12_thingsIn_0 N hG z1 M r h))
abbrev hX12_thingsIn (N : Nat) : nF := fun T as M k => n_pC 107 as (fun as => n_pI as (fun z1 as => n_pE as ((fX12_thingsIn N z1 M).bind fun p => k (dv_i p.1) p.2)))
theorem csX12_thingsIn {l : Launch} {w : nW} (N : Nat) {G : nG} (hG : n_GOK G) : n_CS l w 0 mX12_thingsIn G (hX12_thingsIn N) := fun T as M k r h => by
  obtain ⟨t0, rfl, h1⟩ := n_pC_x h
  obtain ⟨z1, t1, rfl, h2⟩ := n_pI_x h1
  obtain ⟨rfl, hE⟩ := n_pE_x h2
  obtain ⟨p, hp, hk⟩ := Option.bind_eq_some_iff.mp hE
  exact ⟨_, _, eX12_thingsIn N hG z1 M p hp, hk⟩
/-! ===== SleightHouseModel.place(II)I ===== -/
def mX12_place : nY := (RX12, yX12_place, cX12_place, 3, some .int)
theorem okX12_place : n_MOK mX12_place 2 := ⟨w_1950, w_151, ⟨by decide +kernel, by decide +kernel, by decide +kernel⟩, by decide⟩
abbrev aX12_place (N : Nat) : List (Nat × nO (Int32 × nM)) := [(0, o_aload 0 1), (1, o_push (.int (0 : Int32)) 2), (2, o_pIc 107 0 5), (5, o_aload 0 6), (6, o_iload 1 7), (7, o_callVc 107 1 (hX12_isPlace) 10), (10, oi_ne 15 13), (13, o_push (.int (-1 : Int32)) 14), (14, o_iret), (15, o_iload 2 16), (16, oi_ne 25 19), (19, o_aload 0 20), (20, o_iload 1 21), (21, o_callVc 107 1 (hX12_roomOf) 24), (24, o_iret), (25, o_iload 2 26), (26, o_push (.int (1 : Int32)) 27), (27, oc_ne 39 30), (30, o_aload 0 31), (31, o_gRc 107 108 34), (34, o_push (.int (4 : Int32)) 35), (35, o_iload 1 36), (36, o_iadd 37), (37, o_aldc 108 100 38), (38, o_iret), (39, o_iload 2 40), (40, o_push (.int (2 : Int32)) 41), (41, oc_ne 54 44), (44, o_aload 0 45), (45, o_gRc 107 108 48), (48, o_push (.int (16 : Int32)) 50), (50, o_iload 1 51), (51, o_iadd 52), (52, o_aldc 108 100 53), (53, o_iret), (54, o_iload 2 55), (55, o_push (.int (3 : Int32)) 56), (56, oc_ne 67 59), (59, o_aload 0 60), (60, o_iload 1 61), (61, o_callVc 107 1 (hX12_fullOf N) 64), (64, o_goto 81), (67, o_iload 2 68), (68, o_push (.int (4 : Int32)) 69), (69, oc_ne 80 72), (72, o_aload 0 73), (73, o_iload 1 74), (74, o_callVc 107 1 (hX12_thingsIn N) 77), (77, o_goto 81), (80, o_push (.int (-1 : Int32)) 81), (81, o_iret)]
set_option maxRecDepth 200000 in
theorem iX12_place {l : Launch} {w : nW} (N : Nat) {G : nG} (hG : n_GOK G) : n_AllS l w 1 mX12_place G (n_fin dv_i G) (aX12_place N) :=
  n_c (s_aload_n (pc := 0) (k := 0) (by decide +kernel)) <|
  n_c (s_iconst (pc := 1) (n := 0) (by decide +kernel) (by decide +kernel)) <|
  n_c (s_pIc (s_putI (pc := 2) (ci := 12) (k := 0) (idx := 146) nok12 (by decide) rfl rfl (by decide +kernel) w_1407) (gk107 hG)) <|
  n_c (s_aload_n (pc := 5) (k := 0) (by decide +kernel)) <|
  n_c (s_iload_n (pc := 6) (k := 1) (by decide +kernel)) <|
  n_c (s_callVc (s_callV (pc := 7) (csX12_isPlace) (by decide) okX12_isPlace nok12 w_1663 w_47 w_1661 (by decide +kernel)) (gk107 hG)) <|
  n_c (s_if_ne (pc := 10) (off := 5) (by decide +kernel) (by decide +kernel)) <|
  n_c (s_iconst (pc := 13) (n := -1) (by decide +kernel) (by decide +kernel)) <|
  n_c (s_iret (pc := 14) rfl (by decide +kernel)) <|
  n_c (s_iload_n (pc := 15) (k := 2) (by decide +kernel)) <|
  n_c (s_if_ne (pc := 16) (off := 9) (by decide +kernel) (by decide +kernel)) <|
  n_c (s_aload_n (pc := 19) (k := 0) (by decide +kernel)) <|
  n_c (s_iload_n (pc := 20) (k := 1) (by decide +kernel)) <|
  n_c (s_callVc (s_callV (pc := 21) (csX12_roomOf hG) (by decide) okX12_roomOf nok12 w_1855 w_88 w_1853 (by decide +kernel)) (gk107 hG)) <|
  n_c (s_iret (pc := 24) rfl (by decide +kernel)) <|
  n_c (s_iload_n (pc := 25) (k := 2) (by decide +kernel)) <|
  n_c (s_iconst (pc := 26) (n := 1) (by decide +kernel) (by decide +kernel)) <|
  n_c (s_icmp_ne (pc := 27) (off := 12) (by decide +kernel) (by decide +kernel)) <|
  n_c (s_aload_n (pc := 30) (k := 0) (by decide +kernel)) <|
  n_c (s_gRc (s_getR (pc := 31) (ci := 12) (k := 1) (idx := 7) nok12 (by decide) rfl (by decide +kernel) w_1408) (gk107 hG) (gm107_1 hG)) <|
  n_c (s_iconst (pc := 34) (n := 4) (by decide +kernel) (by decide +kernel)) <|
  n_c (s_iload_n (pc := 35) (k := 1) (by decide +kernel)) <|
  n_c (s_iadd (pc := 36) (by decide +kernel)) <|
  n_c (s_aldc (s_iaload (pc := 37) (by decide +kernel)) (gk108 hG) (gl108 hG)) <|
  n_c (s_iret (pc := 38) rfl (by decide +kernel)) <|
  n_c (s_iload_n (pc := 39) (k := 2) (by decide +kernel)) <|
  n_c (s_iconst (pc := 40) (n := 2) (by decide +kernel) (by decide +kernel)) <|
  n_c (s_icmp_ne (pc := 41) (off := 13) (by decide +kernel) (by decide +kernel)) <|
  n_c (s_aload_n (pc := 44) (k := 0) (by decide +kernel)) <|
  n_c (s_gRc (s_getR (pc := 45) (ci := 12) (k := 1) (idx := 7) nok12 (by decide) rfl (by decide +kernel) w_1408) (gk107 hG) (gm107_1 hG)) <|
  n_c (s_bipush (pc := 48) (n := 16) (by decide +kernel) (by decide +kernel)) <|
  n_c (s_iload_n (pc := 50) (k := 1) (by decide +kernel)) <|
  n_c (s_iadd (pc := 51) (by decide +kernel)) <|
  n_c (s_aldc (s_iaload (pc := 52) (by decide +kernel)) (gk108 hG) (gl108 hG)) <|
  n_c (s_iret (pc := 53) rfl (by decide +kernel)) <|
  n_c (s_iload_n (pc := 54) (k := 2) (by decide +kernel)) <|
  n_c (s_iconst (pc := 55) (n := 3) (by decide +kernel) (by decide +kernel)) <|
  n_c (s_icmp_ne (pc := 56) (off := 11) (by decide +kernel) (by decide +kernel)) <|
  n_c (s_aload_n (pc := 59) (k := 0) (by decide +kernel)) <|
  n_c (s_iload_n (pc := 60) (k := 1) (by decide +kernel)) <|
  n_c (s_callVc (s_callV (pc := 61) (csX12_fullOf N hG) (by decide) okX12_fullOf nok12 w_1851 w_87 w_1849 (by decide +kernel)) (gk107 hG)) <|
  n_c (s_goto (pc := 64) (off := 17) (by decide +kernel) (by decide +kernel)) <|
  n_c (s_iload_n (pc := 67) (k := 2) (by decide +kernel)) <|
  n_c (s_iconst (pc := 68) (n := 4) (by decide +kernel) (by decide +kernel)) <|
  n_c (s_icmp_ne (pc := 69) (off := 11) (by decide +kernel) (by decide +kernel)) <|
  n_c (s_aload_n (pc := 72) (k := 0) (by decide +kernel)) <|
  n_c (s_iload_n (pc := 73) (k := 1) (by decide +kernel)) <|
  n_c (s_callVc (s_callV (pc := 74) (csX12_thingsIn N hG) (by decide) okX12_thingsIn nok12 w_1953 w_108 w_1951 (by decide +kernel)) (gk107 hG)) <|
  n_c (s_goto (pc := 77) (off := 4) (by decide +kernel) (by decide +kernel)) <|
  n_c (s_iconst (pc := 80) (n := -1) (by decide +kernel) (by decide +kernel)) <|
  n_c (s_iret (pc := 81) rfl (by decide +kernel)) <|
  n_e
def fX12_place (N : Nat) (x1 : Int32) (x2 : Int32) (M : nM) : Option (Int32 × nM) :=
  let M1 : nM := n_up M 107 0 (0 : Int32)
  (fX12_isPlace x1 M1).bind fun p2 =>
  if ¬ p2.1 = 0 then
    if ¬ x2 = 0 then
      if ¬ x2 = (1 : Int32) then
        if ¬ x2 = (2 : Int32) then
          if ¬ x2 = (3 : Int32) then
            if ¬ x2 = (4 : Int32) then
              some ((-1 : Int32), p2.2)
            else
              (fX12_thingsIn N x1 p2.2).bind fun p3 =>
              some (p3.1, p3.2)
          else
            (fX12_fullOf N x1 p2.2).bind fun p4 =>
            some (p4.1, p4.2)
        else
          n_chk (n_ib 100 ((16 : Int32) + x1)) <|
          some ((p2.2 108 ((16 : Int32) + x1).toNatClampNeg), p2.2)
      else
        n_chk (n_ib 100 ((4 : Int32) + x1)) <|
        some ((p2.2 108 ((4 : Int32) + x1).toNatClampNeg), p2.2)
    else
      (fX12_roomOf x1 p2.2).bind fun p5 =>
      some (p5.1, p5.2)
  else
    some ((-1 : Int32), p2.2)
set_option maxRecDepth 200000 in
theorem bX12_place_0 {l : Launch} {w : nW} (N : Nat) {G : nG} (hG : n_GOK G) (x1 : Int32) (x2 : Int32) (M : nM) (r : Int32 × nM) (h : fX12_place N x1 x2 M = some r) : n_At l w 1 mX12_place 0 [(0, .ref 107), (1, .int x1), (2, .int x2)] [] (G, M) (dv_i r.1, (G, r.2)) :=
  n_seg (fin := n_fin dv_i G) (K := []) 56 (iX12_place N hG) n_ke (by rfl) h
theorem eX12_place {l : Launch} {w : nW} (N : Nat) {G : nG} (hG : n_GOK G) (z1 : Int32) (z2 : Int32) (M : nM) (r : Int32 × nM) (h : fX12_place N z1 z2 M = some r) : n_Met l w 1 mX12_place [.ref 107, .int z1, .int z2] (G, M) (dv_i r.1, (G, r.2)) :=
  n_entry (by decide +kernel) rfl (Nat.le_of_ble_eq_true rfl) (n_sub (lv := [(0, .ref 107), (1, .int z1), (2, .int z2)]) (n_qc rfl (n_qc rfl (n_qc rfl n_qe))) (bX12_place_0 N hG z1 z2 M r h))
abbrev hX12_place (N : Nat) : nF := fun T as M k => n_pC 107 as (fun as => n_pI as (fun z1 as => n_pI as (fun z2 as => n_pE as ((fX12_place N z1 z2 M).bind fun p => k (dv_i p.1) p.2))))
theorem csX12_place {l : Launch} {w : nW} (N : Nat) {G : nG} (hG : n_GOK G) : n_CS l w 1 mX12_place G (hX12_place N) := fun T as M k r h => by
  obtain ⟨t0, rfl, h1⟩ := n_pC_x h
  obtain ⟨z1, t1, rfl, h2⟩ := n_pI_x h1
  obtain ⟨z2, t2, rfl, h3⟩ := n_pI_x h2
  obtain ⟨rfl, hE⟩ := n_pE_x h3
  obtain ⟨p, hp, hk⟩ := Option.bind_eq_some_iff.mp hE
  exact ⟨_, _, eX12_place N hG z1 z2 M p hp, hk⟩
