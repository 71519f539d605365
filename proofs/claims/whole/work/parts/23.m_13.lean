/-! ===== SleightHouseModel.findsMarks(I)V ===== -/
def mX12_findsMarks : nY := (RX12, yX12_findsMarks, cX12_findsMarks, 3, none)
theorem okX12_findsMarks : n_MOK mX12_findsMarks 1 := ⟨w_2082, w_151, ⟨by decide +kernel, by decide +kernel, by decide +kernel⟩, by decide⟩
abbrev aX12_findsMarks (N : Nat) : List (Nat × nO (Unit × nM)) := [(0, o_aload 0 1), (1, o_aload 0 2), (2, o_gIc 107 7 5), (5, oi_ne 12 8), (8, o_push (.int (1 : Int32)) 9), (9, o_goto 13), (12, o_push (.int (0 : Int32)) 13), (13, o_pIc 107 60 16), (16, o_aload 0 17), (17, o_push (.int (100000000 : Int32)) 20), (20, o_pIc 107 61 23), (23, o_aload 0 24), (24, o_push (.int (-1 : Int32)) 25), (25, o_pIc 107 62 28), (28, o_aload 0 29), (29, o_gIc 107 7 32), (32, oi_ne 39 35), (35, o_push (.int (-1 : Int32)) 36), (36, o_goto 40), (39, o_push (.int (0 : Int32)) 40), (40, o_istore 3 2 41), (41, o_aload 0 42), (42, o_gRc 107 142 45), (45, o_push (.int (0 : Int32)) 46), (46, o_push (.int (-1 : Int32)) 47), (47, o_iastc 142 12 48), (48, o_iload 2 49), (49, oi_lt 190 52), (52, o_aload 0 53), (53, o_gRc 107 142 56), (56, o_iload 2 57), (57, o_aload 0 58), (58, o_gRc 107 142 61), (61, o_iload 2 62), (62, o_aldc 142 12 63), (63, o_push (.int (1 : Int32)) 64), (64, o_iadd 65), (65, o_iastc 142 12 66), (66, o_aload 0 67), (67, o_gRc 107 142 70), (70, o_iload 2 71), (71, o_aldc 142 12 72), (72, o_push (.int (2 : Int32)) 73), (73, oc_le 83 76), (76, o_iload 2 77), (77, o_push (.int (1 : Int32)) 78), (78, o_isub 79), (79, o_istore 3 2 80), (80, o_goto 48), (83, o_aload 0 84), (84, o_iload 2 85), (85, o_callVc 107 1 (hX12_canHave N) 88), (88, oi_eq 115 91), (91, o_iload 2 92), (92, o_aload 0 93), (93, o_gIc 107 7 96), (96, o_push (.int (1 : Int32)) 97), (97, o_isub 98), (98, oc_ge 115 101), (101, o_iload 2 102), (102, o_push (.int (1 : Int32)) 103), (103, o_iadd 104), (104, o_istore 3 2 105), (105, o_aload 0 106), (106, o_gRc 107 142 109), (109, o_iload 2 110), (110, o_push (.int (-1 : Int32)) 111), (111, o_iastc 142 12 112), (112, o_goto 48), (115, o_iload 2 116), (116, o_aload 0 117), (117, o_gIc 107 7 120), (120, o_push (.int (1 : Int32)) 121), (121, o_isub 122), (122, oc_ne 48 125), (125, o_aload 0 126), (126, o_iload 2 127), (127, o_callVc 107 1 (hX12_canHave N) 130), (130, oi_eq 48 133), (133, o_aload 0 134), (134, o_aload 0 135), (135, o_gIc 107 60 138), (138, o_push (.int (1 : Int32)) 139), (139, o_iadd 140), (140, o_pIc 107 60 143), (143, o_iload 1 144), (144, o_push (.int (-1 : Int32)) 145), (145, oc_ne 151 148), (148, o_goto 48), (151, o_aload 0 152), (152, o_aload 0 153), (153, o_aload 0 154), (154, o_gIc 107 61 157), (157, o_aload 0 158), (158, o_gRc 107 142 161), (161, o_iload 1 162), (162, o_aldc 142 12 163), (163, o_callVc 107 2 (hX12_lesser) 166), (166, o_pIc 107 61 169), (169, o_aload 0 170), (170, o_aload 0 171), (171, o_aload 0 172), (172, o_gIc 107 62 175), (175, o_aload 0 176), (176, o_gRc 107 142 179), (179, o_iload 1 180), (180, o_aldc 142 12 181), (181, o_callVc 107 2 (hX12_greater) 184), (184, o_pIc 107 62 187), (187, o_goto 48), (190, o_vret)]
set_option maxRecDepth 200000 in
theorem iX12_findsMarks {l : Launch} {w : nW} (N : Nat) {G : nG} (hG : n_GOK G) : n_AllS l w 3 mX12_findsMarks G (n_fin dv_v G) (aX12_findsMarks N) :=
  n_c (s_aload_n (pc := 0) (k := 0) (by decide +kernel)) <|
  n_c (s_aload_n (pc := 1) (k := 0) (by decide +kernel)) <|
  n_c (s_gIc (s_getI (pc := 2) (ci := 12) (k := 7) (idx := 161) nok12 (by decide) rfl (by decide +kernel) w_1414) (gk107 hG)) <|
  n_c (s_if_ne (pc := 5) (off := 7) (by decide +kernel) (by decide +kernel)) <|
  n_c (s_iconst (pc := 8) (n := 1) (by decide +kernel) (by decide +kernel)) <|
  n_c (s_goto (pc := 9) (off := 4) (by decide +kernel) (by decide +kernel)) <|
  n_c (s_iconst (pc := 12) (n := 0) (by decide +kernel) (by decide +kernel)) <|
  n_c (s_pIc (s_putI (pc := 13) (ci := 12) (k := 60) (idx := 464) nok12 (by decide) rfl rfl (by decide +kernel) w_1467) (gk107 hG)) <|
  n_c (s_aload_n (pc := 16) (k := 0) (by decide +kernel)) <|
  n_c (s_ldcw (pc := 17) (i := 467) (by decide +kernel) w_2083) <|
  n_c (s_pIc (s_putI (pc := 20) (ci := 12) (k := 61) (idx := 468) nok12 (by decide) rfl rfl (by decide +kernel) w_1468) (gk107 hG)) <|
  n_c (s_aload_n (pc := 23) (k := 0) (by decide +kernel)) <|
  n_c (s_iconst (pc := 24) (n := -1) (by decide +kernel) (by decide +kernel)) <|
  n_c (s_pIc (s_putI (pc := 25) (ci := 12) (k := 62) (idx := 471) nok12 (by decide) rfl rfl (by decide +kernel) w_1469) (gk107 hG)) <|
  n_c (s_aload_n (pc := 28) (k := 0) (by decide +kernel)) <|
  n_c (s_gIc (s_getI (pc := 29) (ci := 12) (k := 7) (idx := 161) nok12 (by decide) rfl (by decide +kernel) w_1414) (gk107 hG)) <|
  n_c (s_if_ne (pc := 32) (off := 7) (by decide +kernel) (by decide +kernel)) <|
  n_c (s_iconst (pc := 35) (n := -1) (by decide +kernel) (by decide +kernel)) <|
  n_c (s_goto (pc := 36) (off := 4) (by decide +kernel) (by decide +kernel)) <|
  n_c (s_iconst (pc := 39) (n := 0) (by decide +kernel) (by decide +kernel)) <|
  n_c (s_istore_n (pc := 40) (k := 2) (by decide +kernel)) <|
  n_c (s_aload_n (pc := 41) (k := 0) (by decide +kernel)) <|
  n_c (s_gRc (s_getR (pc := 42) (ci := 12) (k := 59) (idx := 116) nok12 (by decide) rfl (by decide +kernel) w_1466) (gk107 hG) (gm107_59 hG)) <|
  n_c (s_iconst (pc := 45) (n := 0) (by decide +kernel) (by decide +kernel)) <|
  n_c (s_iconst (pc := 46) (n := -1) (by decide +kernel) (by decide +kernel)) <|
  n_c (s_iastc (s_iastore (pc := 47) (by decide +kernel)) (gk142 hG) (gl142 hG)) <|
  n_c (s_iload_n (pc := 48) (k := 2) (by decide +kernel)) <|
  n_c (s_if_lt (pc := 49) (off := 141) (by decide +kernel) (by decide +kernel)) <|
  n_c (s_aload_n (pc := 52) (k := 0) (by decide +kernel)) <|
  n_c (s_gRc (s_getR (pc := 53) (ci := 12) (k := 59) (idx := 116) nok12 (by decide) rfl (by decide +kernel) w_1466) (gk107 hG) (gm107_59 hG)) <|
  n_c (s_iload_n (pc := 56) (k := 2) (by decide +kernel)) <|
  n_c (s_aload_n (pc := 57) (k := 0) (by decide +kernel)) <|
  n_c (s_gRc (s_getR (pc := 58) (ci := 12) (k := 59) (idx := 116) nok12 (by decide) rfl (by decide +kernel) w_1466) (gk107 hG) (gm107_59 hG)) <|
  n_c (s_iload_n (pc := 61) (k := 2) (by decide +kernel)) <|
  n_c (s_aldc (s_iaload (pc := 62) (by decide +kernel)) (gk142 hG) (gl142 hG)) <|
  n_c (s_iconst (pc := 63) (n := 1) (by decide +kernel) (by decide +kernel)) <|
  n_c (s_iadd (pc := 64) (by decide +kernel)) <|
  n_c (s_iastc (s_iastore (pc := 65) (by decide +kernel)) (gk142 hG) (gl142 hG)) <|
  n_c (s_aload_n (pc := 66) (k := 0) (by decide +kernel)) <|
  n_c (s_gRc (s_getR (pc := 67) (ci := 12) (k := 59) (idx := 116) nok12 (by decide) rfl (by decide +kernel) w_1466) (gk107 hG) (gm107_59 hG)) <|
  n_c (s_iload_n (pc := 70) (k := 2) (by decide +kernel)) <|
  n_c (s_aldc (s_iaload (pc := 71) (by decide +kernel)) (gk142 hG) (gl142 hG)) <|
  n_c (s_iconst (pc := 72) (n := 2) (by decide +kernel) (by decide +kernel)) <|
  n_c (s_icmp_le (pc := 73) (off := 10) (by decide +kernel) (by decide +kernel)) <|
  n_c (s_iload_n (pc := 76) (k := 2) (by decide +kernel)) <|
  n_c (s_iconst (pc := 77) (n := 1) (by decide +kernel) (by decide +kernel)) <|
  n_c (s_isub (pc := 78) (by decide +kernel)) <|
  n_c (s_istore_n (pc := 79) (k := 2) (by decide +kernel)) <|
  n_c (s_goto (pc := 80) (off := -32) (by decide +kernel) (by decide +kernel)) <|
  n_c (s_aload_n (pc := 83) (k := 0) (by decide +kernel)) <|
  n_c (s_iload_n (pc := 84) (k := 2) (by decide +kernel)) <|
  n_c (s_callVc (s_callV (pc := 85) (csX12_canHave N hG) (by decide) okX12_canHave nok12 w_2086 w_123 w_2084 (by decide +kernel)) (gk107 hG)) <|
  n_c (s_if_eq (pc := 88) (off := 27) (by decide +kernel) (by decide +kernel)) <|
  n_c (s_iload_n (pc := 91) (k := 2) (by decide +kernel)) <|
  n_c (s_aload_n (pc := 92) (k := 0) (by decide +kernel)) <|
  n_c (s_gIc (s_getI (pc := 93) (ci := 12) (k := 7) (idx := 161) nok12 (by decide) rfl (by decide +kernel) w_1414) (gk107 hG)) <|
  n_c (s_iconst (pc := 96) (n := 1) (by decide +kernel) (by decide +kernel)) <|
  n_c (s_isub (pc := 97) (by decide +kernel)) <|
  n_c (s_icmp_ge (pc := 98) (off := 17) (by decide +kernel) (by decide +kernel)) <|
  n_c (s_iload_n (pc := 101) (k := 2) (by decide +kernel)) <|
  n_c (s_iconst (pc := 102) (n := 1) (by decide +kernel) (by decide +kernel)) <|
  n_c (s_iadd (pc := 103) (by decide +kernel)) <|
  n_c (s_istore_n (pc := 104) (k := 2) (by decide +kernel)) <|
  n_c (s_aload_n (pc := 105) (k := 0) (by decide +kernel)) <|
  n_c (s_gRc (s_getR (pc := 106) (ci := 12) (k := 59) (idx := 116) nok12 (by decide) rfl (by decide +kernel) w_1466) (gk107 hG) (gm107_59 hG)) <|
  n_c (s_iload_n (pc := 109) (k := 2) (by decide +kernel)) <|
  n_c (s_iconst (pc := 110) (n := -1) (by decide +kernel) (by decide +kernel)) <|
  n_c (s_iastc (s_iastore (pc := 111) (by decide +kernel)) (gk142 hG) (gl142 hG)) <|
  n_c (s_goto (pc := 112) (off := -64) (by decide +kernel) (by decide +kernel)) <|
  n_c (s_iload_n (pc := 115) (k := 2) (by decide +kernel)) <|
  n_c (s_aload_n (pc := 116) (k := 0) (by decide +kernel)) <|
  n_c (s_gIc (s_getI (pc := 117) (ci := 12) (k := 7) (idx := 161) nok12 (by decide) rfl (by decide +kernel) w_1414) (gk107 hG)) <|
  n_c (s_iconst (pc := 120) (n := 1) (by decide +kernel) (by decide +kernel)) <|
  n_c (s_isub (pc := 121) (by decide +kernel)) <|
  n_c (s_icmp_ne (pc := 122) (off := -74) (by decide +kernel) (by decide +kernel)) <|
  n_c (s_aload_n (pc := 125) (k := 0) (by decide +kernel)) <|
  n_c (s_iload_n (pc := 126) (k := 2) (by decide +kernel)) <|
  n_c (s_callVc (s_callV (pc := 127) (csX12_canHave N hG) (by decide) okX12_canHave nok12 w_2086 w_123 w_2084 (by decide +kernel)) (gk107 hG)) <|
  n_c (s_if_eq (pc := 130) (off := -82) (by decide +kernel) (by decide +kernel)) <|
  n_c (s_aload_n (pc := 133) (k := 0) (by decide +kernel)) <|
  n_c (s_aload_n (pc := 134) (k := 0) (by decide +kernel)) <|
  n_c (s_gIc (s_getI (pc := 135) (ci := 12) (k := 60) (idx := 464) nok12 (by decide) rfl (by decide +kernel) w_1467) (gk107 hG)) <|
  n_c (s_iconst (pc := 138) (n := 1) (by decide +kernel) (by decide +kernel)) <|
  n_c (s_iadd (pc := 139) (by decide +kernel)) <|
  n_c (s_pIc (s_putI (pc := 140) (ci := 12) (k := 60) (idx := 464) nok12 (by decide) rfl rfl (by decide +kernel) w_1467) (gk107 hG)) <|
  n_c (s_iload_n (pc := 143) (k := 1) (by decide +kernel)) <|
  n_c (s_iconst (pc := 144) (n := -1) (by decide +kernel) (by decide +kernel)) <|
  n_c (s_icmp_ne (pc := 145) (off := 6) (by decide +kernel) (by decide +kernel)) <|
  n_c (s_goto (pc := 148) (off := -100) (by decide +kernel) (by decide +kernel)) <|
  n_c (s_aload_n (pc := 151) (k := 0) (by decide +kernel)) <|
  n_c (s_aload_n (pc := 152) (k := 0) (by decide +kernel)) <|
  n_c (s_aload_n (pc := 153) (k := 0) (by decide +kernel)) <|
  n_c (s_gIc (s_getI (pc := 154) (ci := 12) (k := 61) (idx := 468) nok12 (by decide) rfl (by decide +kernel) w_1468) (gk107 hG)) <|
  n_c (s_aload_n (pc := 157) (k := 0) (by decide +kernel)) <|
  n_c (s_gRc (s_getR (pc := 158) (ci := 12) (k := 59) (idx := 116) nok12 (by decide) rfl (by decide +kernel) w_1466) (gk107 hG) (gm107_59 hG)) <|
  n_c (s_iload_n (pc := 161) (k := 1) (by decide +kernel)) <|
  n_c (s_aldc (s_iaload (pc := 162) (by decide +kernel)) (gk142 hG) (gl142 hG)) <|
  n_c (s_callVc (s_callV (pc := 163) (csX12_lesser) (by decide) okX12_lesser nok12 w_2041 w_118 w_2039 (by decide +kernel)) (gk107 hG)) <|
  n_c (s_pIc (s_putI (pc := 166) (ci := 12) (k := 61) (idx := 468) nok12 (by decide) rfl rfl (by decide +kernel) w_1468) (gk107 hG)) <|
  n_c (s_aload_n (pc := 169) (k := 0) (by decide +kernel)) <|
  n_c (s_aload_n (pc := 170) (k := 0) (by decide +kernel)) <|
  n_c (s_aload_n (pc := 171) (k := 0) (by decide +kernel)) <|
  n_c (s_gIc (s_getI (pc := 172) (ci := 12) (k := 62) (idx := 471) nok12 (by decide) rfl (by decide +kernel) w_1469) (gk107 hG)) <|
  n_c (s_aload_n (pc := 175) (k := 0) (by decide +kernel)) <|
  n_c (s_gRc (s_getR (pc := 176) (ci := 12) (k := 59) (idx := 116) nok12 (by decide) rfl (by decide +kernel) w_1466) (gk107 hG) (gm107_59 hG)) <|
  n_c (s_iload_n (pc := 179) (k := 1) (by decide +kernel)) <|
  n_c (s_aldc (s_iaload (pc := 180) (by decide +kernel)) (gk142 hG) (gl142 hG)) <|
  n_c (s_callVc (s_callV (pc := 181) (csX12_greater) (by decide) okX12_greater nok12 w_2037 w_117 w_2035 (by decide +kernel)) (gk107 hG)) <|
  n_c (s_pIc (s_putI (pc := 184) (ci := 12) (k := 62) (idx := 471) nok12 (by decide) rfl rfl (by decide +kernel) w_1469) (gk107 hG)) <|
  n_c (s_goto (pc := 187) (off := -139) (by decide +kernel) (by decide +kernel)) <|
  n_c (s_vret (pc := 190) rfl (by decide +kernel)) <|
  n_e
def fX12_findsMarks_115 (N : Nat) (k48 : Int32 → Int32 → nM → Option (Unit × nM)) (x1 : Int32) (x2 : Int32) (M : nM) : Option (Unit × nM) :=
  if ¬ x2 = ((M 107 7) - (1 : Int32)) then
    k48 x1 x2 M
  else
    (fX12_canHave N x2 M).bind fun p1 =>
    if p1.1 = 0 then
      k48 x1 x2 p1.2
    else
      let M2 : nM := n_up p1.2 107 60 ((p1.2 107 60) + (1 : Int32))
      if ¬ x1 = (-1 : Int32) then
        n_chk (n_ib 12 x1) <|
        (fX12_lesser (M2 107 61) (M2 142 x1.toNatClampNeg) M2).bind fun p3 =>
        let M4 : nM := n_up p3.2 107 61 p3.1
        n_chk (n_ib 12 x1) <|
        (fX12_greater (M4 107 62) (M4 142 x1.toNatClampNeg) M4).bind fun p5 =>
        let M6 : nM := n_up p5.2 107 62 p5.1
        k48 x1 x2 M6
      else
        k48 x1 x2 M2
set_option maxRecDepth 200000 in
theorem bX12_findsMarks_115 {l : Launch} {w : nW} (N : Nat) {G : nG} (hG : n_GOK G) (k48 : Int32 → Int32 → nM → Option (Unit × nM)) (hk48 : ∀ (x1 : Int32) (x2 : Int32) (M : nM) (r : Unit × nM), k48 x1 x2 M = some r → n_At l w 3 mX12_findsMarks 48 [(0, .ref 107), (1, .int x1), (2, .int x2)] [] (G, M) (dv_v r.1, (G, r.2))) (x1 : Int32) (x2 : Int32) (M : nM) (r : Unit × nM) (h : fX12_findsMarks_115 N k48 x1 x2 M = some r) : n_At l w 3 mX12_findsMarks 115 [(0, .ref 107), (1, .int x1), (2, .int x2)] [] (G, M) (dv_v r.1, (G, r.2)) :=
  n_seg (fin := n_fin dv_v G) (K := [(48, fun lv st M => n_lC 107 lv 0 (n_lI lv 1 (fun x1 => n_lI lv 2 (fun x2 => n_pE st (k48 x1 x2 M)))))]) 44 (iX12_findsMarks N hG) (n_kc (fun lv st M r h => by
      obtain ⟨e0, h1⟩ := n_lC_x h
      obtain ⟨x1, e1, h2⟩ := n_lI_x h1
      obtain ⟨x2, e2, h3⟩ := n_lI_x h2
      obtain ⟨rfl, h4⟩ := n_pE_x h3
      exact n_sub (n_qc e0 (n_qc e1 (n_qc e2 n_qe))) (hk48 x1 x2 M r h4)) n_ke) (by rfl) h
def fX12_findsMarks_48 (N : Nat) : Nat → Int32 → Int32 → nM → Option (Unit × nM)
  | 0, _, _, _ => none
  | n + 1, x1, x2, M =>
    if x2 < 0 then
      some ((), M)
    else
      n_chk (n_ib 12 x2) <|
      n_chk (n_ib 12 x2) <|
      let M1 : nM := n_up M 142 x2.toNatClampNeg ((M 142 x2.toNatClampNeg) + (1 : Int32))
      n_chk (n_ib 12 x2) <|
      if (M1 142 x2.toNatClampNeg) ≤ (2 : Int32) then
        (fX12_canHave N x2 M1).bind fun p2 =>
        if p2.1 = 0 then
          fX12_findsMarks_115 N (fun x1 x2 M => fX12_findsMarks_48 N n x1 x2 M) x1 x2 p2.2
        else
          if ((p2.2 107 7) - (1 : Int32)) ≤ x2 then
            fX12_findsMarks_115 N (fun x1 x2 M => fX12_findsMarks_48 N n x1 x2 M) x1 x2 p2.2
          else
            let v3 : Int32 := (x2 + (1 : Int32))
            n_chk (n_ib 12 v3) <|
            let M4 : nM := n_up p2.2 142 v3.toNatClampNeg (-1 : Int32)
            fX12_findsMarks_48 N n x1 v3 M4
      else
        let v5 : Int32 := (x2 - (1 : Int32))
        fX12_findsMarks_48 N n x1 v5 M1
set_option maxRecDepth 200000 in
theorem bX12_findsMarks_48 {l : Launch} {w : nW} (N : Nat) {G : nG} (hG : n_GOK G) : ∀ (n : Nat) (x1 : Int32) (x2 : Int32) (M : nM) (r : Unit × nM), fX12_findsMarks_48 N n x1 x2 M = some r → n_At l w 3 mX12_findsMarks 48 [(0, .ref 107), (1, .int x1), (2, .int x2)] [] (G, M) (dv_v r.1, (G, r.2)) := by
  intro n
  induction n with
  | zero => intro x1 x2 M r h; cases (show (none : Option (Unit × nM)) = some r from h)
  | succ n ih =>
    intro x1 x2 M r h
    exact n_seg (fin := n_fin dv_v G) (K := [(48, fun lv st M => n_lC 107 lv 0 (n_lI lv 1 (fun x1 => n_lI lv 2 (fun x2 => n_pE st (fX12_findsMarks_48 N n x1 x2 M))))), (115, fun lv st M => n_lC 107 lv 0 (n_lI lv 1 (fun x1 => n_lI lv 2 (fun x2 => n_pE st (fX12_findsMarks_115 N (fun x1 x2 M => fX12_findsMarks_48 N n x1 x2 M) x1 x2 M)))))]) 47 (iX12_findsMarks N hG) (n_kc (fun lv st M r h => by
      obtain ⟨e0, h1⟩ := n_lC_x h
      obtain ⟨x1, e1, h2⟩ := n_lI_x h1
      obtain ⟨x2, e2, h3⟩ := n_lI_x h2
      obtain ⟨rfl, h4⟩ := n_pE_x h3
      exact n_sub (n_qc e0 (n_qc e1 (n_qc e2 n_qe))) (ih x1 x2 M r h4)) (n_kc (fun lv st M r h => by
      obtain ⟨e0, h1⟩ := n_lC_x h
      obtain ⟨x1, e1, h2⟩ := n_lI_x h1
      obtain ⟨x2, e2, h3⟩ := n_lI_x h2
      obtain ⟨rfl, h4⟩ := n_pE_x h3
      exact n_sub (n_qc e0 (n_qc e1 (n_qc e2 n_qe))) (bX12_findsMarks_115 N hG (fun x1 x2 M => fX12_findsMarks_48 N n x1 x2 M) ih x1 x2 M r h4)) n_ke)) (by rfl) h
def fX12_findsMarks_13 (N : Nat) (x1 : Int32) (s0 : Int32) (M : nM) : Option (Unit × nM) :=
  let M1 : nM := n_up M 107 60 s0
  let M2 : nM := n_up M1 107 61 (100000000 : Int32)
  let M3 : nM := n_up M2 107 62 (-1 : Int32)
  if ¬ (M3 107 7) = 0 then
    n_chk (n_ib 12 (0 : Int32)) <|
    let M4 : nM := n_up M3 142 (0 : Int32).toNatClampNeg (-1 : Int32)
    fX12_findsMarks_48 N N x1 (0 : Int32) M4
  else
    n_chk (n_ib 12 (0 : Int32)) <|
    let M5 : nM := n_up M3 142 (0 : Int32).toNatClampNeg (-1 : Int32)
    fX12_findsMarks_48 N N x1 (-1 : Int32) M5
set_option maxRecDepth 200000 in
theorem bX12_findsMarks_13 {l : Launch} {w : nW} (N : Nat) {G : nG} (hG : n_GOK G) (x1 : Int32) (s0 : Int32) (M : nM) (r : Unit × nM) (h : fX12_findsMarks_13 N x1 s0 M = some r) : n_At l w 3 mX12_findsMarks 13 [(0, .ref 107), (1, .int x1)] [.int s0, .ref 107] (G, M) (dv_v r.1, (G, r.2)) :=
  n_seg (fin := n_fin dv_v G) (K := [(48, fun lv st M => n_lC 107 lv 0 (n_lI lv 1 (fun x1 => n_lI lv 2 (fun x2 => n_pE st (fX12_findsMarks_48 N N x1 x2 M)))))]) 28 (iX12_findsMarks N hG) (n_kc (fun lv st M r h => by
      obtain ⟨e0, h1⟩ := n_lC_x h
      obtain ⟨x1, e1, h2⟩ := n_lI_x h1
      obtain ⟨x2, e2, h3⟩ := n_lI_x h2
      obtain ⟨rfl, h4⟩ := n_pE_x h3
      exact n_sub (n_qc e0 (n_qc e1 (n_qc e2 n_qe))) (bX12_findsMarks_48 N hG N x1 x2 M r h4)) n_ke) (by rfl) h
def fX12_findsMarks (N : Nat) (x1 : Int32) (M : nM) : Option (Unit × nM) :=
  if ¬ (M 107 7) = 0 then
    fX12_findsMarks_13 N x1 (0 : Int32) M
  else
    fX12_findsMarks_13 N x1 (1 : Int32) M
set_option maxRecDepth 200000 in
theorem bX12_findsMarks_0 {l : Launch} {w : nW} (N : Nat) {G : nG} (hG : n_GOK G) (x1 : Int32) (M : nM) (r : Unit × nM) (h : fX12_findsMarks N x1 M = some r) : n_At l w 3 mX12_findsMarks 0 [(0, .ref 107), (1, .int x1)] [] (G, M) (dv_v r.1, (G, r.2)) :=
  n_seg (fin := n_fin dv_v G) (K := [(13, fun lv st M => n_lC 107 lv 0 (n_lI lv 1 (fun x1 => n_pI st (fun s0 st => n_pC 107 st (fun st => n_pE st (fX12_findsMarks_13 N x1 s0 M))))))]) 10 (iX12_findsMarks N hG) (n_kc (fun lv st M r h => by
      obtain ⟨e0, h1⟩ := n_lC_x h
      obtain ⟨x1, e1, h2⟩ := n_lI_x h1
      obtain ⟨s0, t0, rfl, h3⟩ := n_pI_x h2
      obtain ⟨t1, rfl, h4⟩ := n_pC_x h3
      obtain ⟨rfl, h5⟩ := n_pE_x h4
      exact n_sub (n_qc e0 (n_qc e1 n_qe)) (bX12_findsMarks_13 N hG x1 s0 M r h5)) n_ke) (by rfl) h
theorem eX12_findsMarks {l : Launch} {w : nW} (N : Nat) {G : nG} (hG : n_GOK G) (z1 : Int32) (M : nM) (r : Unit × nM) (h : fX12_findsMarks N z1 M = some r) : n_Met l w 3 mX12_findsMarks [.ref 107, .int z1] (G, M) (dv_v r.1, (G, r.2)) :=
  n_entry (by decide +kernel) rfl (Nat.le_of_ble_eq_true rfl) (n_sub (lv := [(0, .ref 107), (1, .int z1)]) (n_qc rfl (n_qc rfl n_qe)) (bX12_findsMarks_0 N hG z1 M r h))
abbrev hX12_findsMarks (N : Nat) : nF := fun T as M k => n_pC 107 as (fun as => n_pI as (fun z1 as => n_pE as ((fX12_findsMarks N z1 M).bind fun p => k (dv_v p.1) p.2)))
theorem csX12_findsMarks {l : Launch} {w : nW} (N : Nat) {G : nG} (hG : n_GOK G) : n_CS l w 3 mX12_findsMarks G (hX12_findsMarks N) := fun T as M k r h => by
  obtain ⟨t0, rfl, h1⟩ := n_pC_x h
  obtain ⟨z1, t1, rfl, h2⟩ := n_pI_x h1
  obtain ⟨rfl, hE⟩ := n_pE_x h2
  obtain ⟨p, hp, hk⟩ := Option.bind_eq_some_iff.mp hE
  exact ⟨_, _, eX12_findsMarks N hG z1 M p hp, hk⟩
/-! ===== SleightHouseModel.heir(I)I ===== -/
def mX12_heir : nY := (RX12, yX12_heir, cX12_heir, 2, some .int)
theorem okX12_heir : n_MOK mX12_heir 1 := ⟨w_2078, w_151, ⟨by decide +kernel, by decide +kernel, by decide +kernel⟩, by decide⟩
abbrev aX12_heir (N : Nat) : List (Nat × nO (Int32 × nM)) := [(0, o_aload 0 1), (1, o_push (.int (0 : Int32)) 2), (2, o_pIc 107 0 5), (5, o_iload 1 6), (6, o_push (.int (-1 : Int32)) 7), (7, oc_eq 20 10), (10, o_aload 0 11), (11, o_iload 1 12), (12, o_callVc 107 1 (hX12_isPerson) 15), (15, oi_ne 20 18), (18, o_push (.int (-1 : Int32)) 19), (19, o_iret), (20, o_aload 0 21), (21, o_iload 1 22), (22, o_callVc 107 1 (hX12_findsMarks N) 25), (25, o_iload 1 26), (26, o_push (.int (-1 : Int32)) 27), (27, oc_ne 37 30), (30, o_aload 0 31), (31, o_gIc 107 60 34), (34, o_goto 60), (37, o_aload 0 38), (38, o_gIc 107 60 41), (41, oi_ne 48 44), (44, o_push (.int (-1 : Int32)) 45), (45, o_goto 60), (48, o_push (.int (10 : Int32)) 50), (50, o_aload 0 51), (51, o_gIc 107 61 54), (54, o_imul 55), (55, o_aload 0 56), (56, o_gIc 107 62 59), (59, o_iadd 60), (60, o_iret)]
set_option maxRecDepth 200000 in
theorem iX12_heir {l : Launch} {w : nW} (N : Nat) {G : nG} (hG : n_GOK G) : n_AllS l w 4 mX12_heir G (n_fin dv_i G) (aX12_heir N) :=
  n_c (s_aload_n (pc := 0) (k := 0) (by decide +kernel)) <|
  n_c (s_iconst (pc := 1) (n := 0) (by decide +kernel) (by decide +kernel)) <|
  n_c (s_pIc (s_putI (pc := 2) (ci := 12) (k := 0) (idx := 146) nok12 (by decide) rfl rfl (by decide +kernel) w_1407) (gk107 hG)) <|
  n_c (s_iload_n (pc := 5) (k := 1) (by decide +kernel)) <|
  n_c (s_iconst (pc := 6) (n := -1) (by decide +kernel) (by decide +kernel)) <|
  n_c (s_icmp_eq (pc := 7) (off := 13) (by decide +kernel) (by decide +kernel)) <|
  n_c (s_aload_n (pc := 10) (k := 0) (by decide +kernel)) <|
  n_c (s_iload_n (pc := 11) (k := 1) (by decide +kernel)) <|
  n_c (s_callVc (s_callV (pc := 12) (csX12_isPerson hG) (by decide) okX12_isPerson nok12 w_1683 w_50 w_1681 (by decide +kernel)) (gk107 hG)) <|
  n_c (s_if_ne (pc := 15) (off := 5) (by decide +kernel) (by decide +kernel)) <|
  n_c (s_iconst (pc := 18) (n := -1) (by decide +kernel) (by decide +kernel)) <|
  n_c (s_iret (pc := 19) rfl (by decide +kernel)) <|
  n_c (s_aload_n (pc := 20) (k := 0) (by decide +kernel)) <|
  n_c (s_iload_n (pc := 21) (k := 1) (by decide +kernel)) <|
  n_c (s_callVc (s_callV (pc := 22) (csX12_findsMarks N hG) (by decide) okX12_findsMarks nok12 w_2081 w_122 w_2079 (by decide +kernel)) (gk107 hG)) <|
  n_c (s_iload_n (pc := 25) (k := 1) (by decide +kernel)) <|
  n_c (s_iconst (pc := 26) (n := -1) (by decide +kernel) (by decide +kernel)) <|
  n_c (s_icmp_ne (pc := 27) (off := 10) (by decide +kernel) (by decide +kernel)) <|
  n_c (s_aload_n (pc := 30) (k := 0) (by decide +kernel)) <|
  n_c (s_gIc (s_getI (pc := 31) (ci := 12) (k := 60) (idx := 464) nok12 (by decide) rfl (by decide +kernel) w_1467) (gk107 hG)) <|
  n_c (s_goto (pc := 34) (off := 26) (by decide +kernel) (by decide +kernel)) <|
  n_c (s_aload_n (pc := 37) (k := 0) (by decide +kernel)) <|
  n_c (s_gIc (s_getI (pc := 38) (ci := 12) (k := 60) (idx := 464) nok12 (by decide) rfl (by decide +kernel) w_1467) (gk107 hG)) <|
  n_c (s_if_ne (pc := 41) (off := 7) (by decide +kernel) (by decide +kernel)) <|
  n_c (s_iconst (pc := 44) (n := -1) (by decide +kernel) (by decide +kernel)) <|
  n_c (s_goto (pc := 45) (off := 15) (by decide +kernel) (by decide +kernel)) <|
  n_c (s_bipush (pc := 48) (n := 10) (by decide +kernel) (by decide +kernel)) <|
  n_c (s_aload_n (pc := 50) (k := 0) (by decide +kernel)) <|
  n_c (s_gIc (s_getI (pc := 51) (ci := 12) (k := 61) (idx := 468) nok12 (by decide) rfl (by decide +kernel) w_1468) (gk107 hG)) <|
  n_c (s_imul (pc := 54) (by decide +kernel)) <|
  n_c (s_aload_n (pc := 55) (k := 0) (by decide +kernel)) <|
  n_c (s_gIc (s_getI (pc := 56) (ci := 12) (k := 62) (idx := 471) nok12 (by decide) rfl (by decide +kernel) w_1469) (gk107 hG)) <|
  n_c (s_iadd (pc := 59) (by decide +kernel)) <|
  n_c (s_iret (pc := 60) rfl (by decide +kernel)) <|
  n_e
def fX12_heir_20 (N : Nat) (x1 : Int32) (M : nM) : Option (Int32 × nM) :=
  (fX12_findsMarks N x1 M).bind fun p1 =>
  if ¬ x1 = (-1 : Int32) then
    if ¬ (p1.2 107 60) = 0 then
      some ((((10 : Int32) * (p1.2 107 61)) + (p1.2 107 62)), p1.2)
    else
      some ((-1 : Int32), p1.2)
  else
    some ((p1.2 107 60), p1.2)
set_option maxRecDepth 200000 in
theorem bX12_heir_20 {l : Launch} {w : nW} (N : Nat) {G : nG} (hG : n_GOK G) (x1 : Int32) (M : nM) (r : Int32 × nM) (h : fX12_heir_20 N x1 M = some r) : n_At l w 4 mX12_heir 20 [(0, .ref 107), (1, .int x1)] [] (G, M) (dv_i r.1, (G, r.2)) :=
  n_seg (fin := n_fin dv_i G) (K := []) 27 (iX12_heir N hG) n_ke (by rfl) h
def fX12_heir (N : Nat) (x1 : Int32) (M : nM) : Option (Int32 × nM) :=
  let M1 : nM := n_up M 107 0 (0 : Int32)
  if x1 = (-1 : Int32) then
    fX12_heir_20 N x1 M1
  else
    (fX12_isPerson x1 M1).bind fun p2 =>
    if ¬ p2.1 = 0 then
      fX12_heir_20 N x1 p2.2
    else
      some ((-1 : Int32), p2.2)
set_option maxRecDepth 200000 in
theorem bX12_heir_0 {l : Launch} {w : nW} (N : Nat) {G : nG} (hG : n_GOK G) (x1 : Int32) (M : nM) (r : Int32 × nM) (h : fX12_heir N x1 M = some r) : n_At l w 4 mX12_heir 0 [(0, .ref 107), (1, .int x1)] [] (G, M) (dv_i r.1, (G, r.2)) :=
  n_seg (fin := n_fin dv_i G) (K := [(20, fun lv st M => n_lC 107 lv 0 (n_lI lv 1 (fun x1 => n_pE st (fX12_heir_20 N x1 M))))]) 15 (iX12_heir N hG) (n_kc (fun lv st M r h => by
      obtain ⟨e0, h1⟩ := n_lC_x h
      obtain ⟨x1, e1, h2⟩ := n_lI_x h1
      obtain ⟨rfl, h3⟩ := n_pE_x h2
      exact n_sub (n_qc e0 (n_qc e1 n_qe)) (bX12_heir_20 N hG x1 M r h3)) n_ke) (by rfl) h
theorem eX12_heir {l : Launch} {w : nW} (N : Nat) {G : nG} (hG : n_GOK G) (z1 : Int32) (M : nM) (r : Int32 × nM) (h : fX12_heir N z1 M = some r) : n_Met l w 4 mX12_heir [.ref 107, .int z1] (G, M) (dv_i r.1, (G, r.2)) :=
  n_entry (by decide +kernel) rfl (Nat.le_of_ble_eq_true rfl) (n_sub (lv := [(0, .ref 107), (1, .int z1)]) (n_qc rfl (n_qc rfl n_qe)) (bX12_heir_0 N hG z1 M r h))
abbrev hX12_heir (N : Nat) : nF := fun T as M k => n_pC 107 as (fun as => n_pI as (fun z1 as => n_pE as ((fX12_heir N z1 M).bind fun p => k (dv_i p.1) p.2)))
theorem csX12_heir {l : Launch} {w : nW} (N : Nat) {G : nG} (hG : n_GOK G) : n_CS l w 4 mX12_heir G (hX12_heir N) := fun T as M k r h => by
  obtain ⟨t0, rfl, h1⟩ := n_pC_x h
  obtain ⟨z1, t1, rfl, h2⟩ := n_pI_x h1
  obtain ⟨rfl, hE⟩ := n_pE_x h2
  obtain ⟨p, hp, hk⟩ := Option.bind_eq_some_iff.mp hE
  exact ⟨_, _, eX12_heir N hG z1 M p hp, hk⟩
/-! ===== SleightHouse$Thought.weighed(IZ)I ===== -/
def mX9_weighed : nY := (RX9, yX9_weighed, cX9_weighed, 5, some .int)
theorem okX9_weighed : n_MOK mX9_weighed 2 := ⟨w_1283, w_149, ⟨by decide +kernel, by decide +kernel, by decide +kernel⟩, by decide⟩
abbrev aX9_weighed (N : Nat) : List (Nat × nO (Int32 × nM)) := [(0, o_iload 1 1), (1, oi_eq 12 4), (4, o_push (.int (2 : Int32)) 5), (5, o_iload 0 6), (6, o_imul 7), (7, o_push (.int (1 : Int32)) 8), (8, o_iadd 9), (9, o_goto 13), (12, o_iload 0 13), (13, o_istore 5 2 14), (14, o_push (.int (0 : Int32)) 15), (15, o_istore 5 3 16), (16, o_push (.int (1 : Int32)) 17), (17, o_istore 5 4 19), (19, o_iload 4 21), (21, o_iload 2 22), (22, oc_ge 37 25), (25, o_inc 5 3 (1 : Int32) 28), (28, o_iload 4 30), (30, o_push (.int (3 : Int32)) 31), (31, o_imul 32), (32, o_istore 5 4 34), (34, o_goto 19), (37, o_iload 3 38), (38, o_iret)]
set_option maxRecDepth 200000 in
theorem iX9_weighed {l : Launch} {w : nW} (N : Nat) {G : nG} : n_AllS l w 0 mX9_weighed G (n_fin dv_i G) (aX9_weighed N) :=
  n_c (s_iload_n (pc := 0) (k := 1) (by decide +kernel)) <|
  n_c (s_if_eq (pc := 1) (off := 11) (by decide +kernel) (by decide +kernel)) <|
  n_c (s_iconst (pc := 4) (n := 2) (by decide +kernel) (by decide +kernel)) <|
  n_c (s_iload_n (pc := 5) (k := 0) (by decide +kernel)) <|
  n_c (s_imul (pc := 6) (by decide +kernel)) <|
  n_c (s_iconst (pc := 7) (n := 1) (by decide +kernel) (by decide +kernel)) <|
  n_c (s_iadd (pc := 8) (by decide +kernel)) <|
  n_c (s_goto (pc := 9) (off := 4) (by decide +kernel) (by decide +kernel)) <|
  n_c (s_iload_n (pc := 12) (k := 0) (by decide +kernel)) <|
  n_c (s_istore_n (pc := 13) (k := 2) (by decide +kernel)) <|
  n_c (s_iconst (pc := 14) (n := 0) (by decide +kernel) (by decide +kernel)) <|
  n_c (s_istore_n (pc := 15) (k := 3) (by decide +kernel)) <|
  n_c (s_iconst (pc := 16) (n := 1) (by decide +kernel) (by decide +kernel)) <|
  n_c (s_istore (pc := 17) (by decide +kernel)) <|
  n_c (s_iload (pc := 19) (by decide +kernel)) <|
  n_c (s_iload_n (pc := 21) (k := 2) (by decide +kernel)) <|
  n_c (s_icmp_ge (pc := 22) (off := 15) (by decide +kernel) (by decide +kernel)) <|
  n_c (s_iinc (pc := 25) (n := 1) (by decide +kernel) (by decide +kernel)) <|
  n_c (s_iload (pc := 28) (by decide +kernel)) <|
  n_c (s_iconst (pc := 30) (n := 3) (by decide +kernel) (by decide +kernel)) <|
  n_c (s_imul (pc := 31) (by decide +kernel)) <|
  n_c (s_istore (pc := 32) (by decide +kernel)) <|
  n_c (s_goto (pc := 34) (off := -15) (by decide +kernel) (by decide +kernel)) <|
  n_c (s_iload_n (pc := 37) (k := 3) (by decide +kernel)) <|
  n_c (s_iret (pc := 38) rfl (by decide +kernel)) <|
  n_e
def fX9_weighed_19 (N : Nat) : Nat → Int32 → Int32 → Int32 → nM → Option (Int32 × nM)
  | 0, _, _, _, _ => none
  | n + 1, x2, x3, x4, M =>
    if x2 ≤ x4 then
      some (x3, M)
    else
      let v1 : Int32 := (x3 + (1 : Int32))
      let v2 : Int32 := (x4 * (3 : Int32))
      fX9_weighed_19 N n x2 v1 v2 M
set_option maxRecDepth 200000 in
theorem bX9_weighed_19 {l : Launch} {w : nW} (N : Nat) {G : nG} : ∀ (n : Nat) (x2 : Int32) (x3 : Int32) (x4 : Int32) (M : nM) (r : Int32 × nM), fX9_weighed_19 N n x2 x3 x4 M = some r → n_At l w 0 mX9_weighed 19 [(2, .int x2), (3, .int x3), (4, .int x4)] [] (G, M) (dv_i r.1, (G, r.2)) := by
  intro n
  induction n with
  | zero => intro x2 x3 x4 M r h; cases (show (none : Option (Int32 × nM)) = some r from h)
  | succ n ih =>
    intro x2 x3 x4 M r h
    exact n_seg (fin := n_fin dv_i G) (K := [(19, fun lv st M => n_lI lv 2 (fun x2 => n_lI lv 3 (fun x3 => n_lI lv 4 (fun x4 => n_pE st (fX9_weighed_19 N n x2 x3 x4 M)))))]) 14 (iX9_weighed N) (n_kc (fun lv st M r h => by
      obtain ⟨x2, e2, h1⟩ := n_lI_x h
      obtain ⟨x3, e3, h2⟩ := n_lI_x h1
      obtain ⟨x4, e4, h3⟩ := n_lI_x h2
      obtain ⟨rfl, h4⟩ := n_pE_x h3
      exact n_sub (n_qc e2 (n_qc e3 (n_qc e4 n_qe))) (ih x2 x3 x4 M r h4)) n_ke) (by rfl) h
def fX9_weighed (N : Nat) (x0 : Int32) (x1 : Int32) (M : nM) : Option (Int32 × nM) :=
  if x1 = 0 then
    fX9_weighed_19 N N x0 (0 : Int32) (1 : Int32) M
  else
    let v1 : Int32 := (((2 : Int32) * x0) + (1 : Int32))
    fX9_weighed_19 N N v1 (0 : Int32) (1 : Int32) M
set_option maxRecDepth 200000 in
theorem bX9_weighed_0 {l : Launch} {w : nW} (N : Nat) {G : nG} (x0 : Int32) (x1 : Int32) (M : nM) (r : Int32 × nM) (h : fX9_weighed N x0 x1 M = some r) : n_At l w 0 mX9_weighed 0 [(0, .int x0), (1, .int x1)] [] (G, M) (dv_i r.1, (G, r.2)) :=
  n_seg (fin := n_fin dv_i G) (K := [(19, fun lv st M => n_lI lv 2 (fun x2 => n_lI lv 3 (fun x3 => n_lI lv 4 (fun x4 => n_pE st (fX9_weighed_19 N N x2 x3 x4 M)))))]) 22 (iX9_weighed N) (n_kc (fun lv st M r h => by
      obtain ⟨x2, e2, h1⟩ := n_lI_x h
      obtain ⟨x3, e3, h2⟩ := n_lI_x h1
      obtain ⟨x4, e4, h3⟩ := n_lI_x h2
      obtain ⟨rfl, h4⟩ := n_pE_x h3
      exact n_sub (n_qc e2 (n_qc e3 (n_qc e4 n_qe))) (bX9_weighed_19 N N x2 x3 x4 M r h4)) n_ke) (by rfl) h
theorem eX9_weighed {l : Launch} {w : nW} (N : Nat) {G : nG} (z0 : Int32) (z1 : Int32) (M : nM) (r : Int32 × nM) (h : fX9_weighed N z0 z1 M = some r) : n_Met l w 0 mX9_weighed [.int z0, .int z1] (G, M) (dv_i r.1, (G, r.2)) :=
  n_entry (by decide +kernel) rfl (Nat.le_of_ble_eq_true rfl) (n_sub (lv := [(0, .int z0), (1, .int z1)]) (n_qc rfl (n_qc rfl n_qe)) (bX9_weighed_0 N z0 z1 M r h))
abbrev hX9_weighed (N : Nat) : nF := fun T as M k => n_pI as (fun z0 as => n_pI as (fun z1 as => n_pE as ((fX9_weighed N z0 z1 M).bind fun p => k (dv_i p.1) p.2)))
theorem csX9_weighed {l : Launch} {w : nW} (N : Nat) {G : nG} : n_CS l w 0 mX9_weighed G (hX9_weighed N) := fun T as M k r h => by
  obtain ⟨z0, t0, rfl, h1⟩ := n_pI_x h
  obtain ⟨z1, t1, rfl, h2⟩ := n_pI_x h1
  obtain ⟨rfl, hE⟩ := n_pE_x h2
  obtain ⟨p, hp, hk⟩ := Option.bind_eq_some_iff.mp hE
  exact ⟨_, _, eX9_weighed N z0 z1 M p hp, hk⟩
/-! ===== SleightHouse.weighings(II)I ===== -/
def mX11_weighings : nY := (RX11, yX11_weighings, cX11_weighings, 3, some .int)
theorem okX11_weighings : n_MOK mX11_weighings 2 := ⟨w_1280, w_137, ⟨by decide +kernel, by decide +kernel, by decide +kernel⟩, by decide⟩
abbrev aX11_weighings (N : Nat) : List (Nat × nO (Int32 × nM)) := [(0, o_iload 2 1), (1, o_push (.int (0 : Int32)) 2), (2, o_push (.int (1 : Int32)) 3), (3, o_call 3 (hX11_within) 6), (6, oi_eq 22 9), (9, o_iload 1 10), (10, o_push (.int (2 : Int32)) 11), (11, o_iload 2 12), (12, o_iadd 13), (13, o_push (.int (1000 : Int32)) 16), (16, o_call 3 (hX11_within) 19), (19, oi_ne 24 22), (22, o_push (.int (-1 : Int32)) 23), (23, o_iret), (24, o_iload 1 25), (25, o_iload 2 26), (26, o_push (.int (1 : Int32)) 27), (27, oc_ne 34 30), (30, o_push (.int (1 : Int32)) 31), (31, o_goto 35), (34, o_push (.int (0 : Int32)) 35), (35, o_call 2 (hX9_weighed N) 38), (38, o_iret)]
set_option maxRecDepth 200000 in
theorem iX11_weighings {l : Launch} {w : nW} (N : Nat) {G : nG} : n_AllS l w 1 mX11_weighings G (n_fin dv_i G) (aX11_weighings N) :=
  n_c (s_iload_n (pc := 0) (k := 2) (by decide +kernel)) <|
  n_c (s_iconst (pc := 1) (n := 0) (by decide +kernel) (by decide +kernel)) <|
  n_c (s_iconst (pc := 2) (n := 1) (by decide +kernel) (by decide +kernel)) <|
  n_c (s_callS (pc := 3) (csX11_within) (by decide) okX11_within w_610 w_609 (by decide +kernel)) <|
  n_c (s_if_eq (pc := 6) (off := 16) (by decide +kernel) (by decide +kernel)) <|
  n_c (s_iload_n (pc := 9) (k := 1) (by decide +kernel)) <|
  n_c (s_iconst (pc := 10) (n := 2) (by decide +kernel) (by decide +kernel)) <|
  n_c (s_iload_n (pc := 11) (k := 2) (by decide +kernel)) <|
  n_c (s_iadd (pc := 12) (by decide +kernel)) <|
  n_c (s_sipush (pc := 13) (n := 1000) (by decide +kernel) (by decide +kernel)) <|
  n_c (s_callS (pc := 16) (csX11_within) (by decide) okX11_within w_610 w_609 (by decide +kernel)) <|
  n_c (s_if_ne (pc := 19) (off := 5) (by decide +kernel) (by decide +kernel)) <|
  n_c (s_iconst (pc := 22) (n := -1) (by decide +kernel) (by decide +kernel)) <|
  n_c (s_iret (pc := 23) rfl (by decide +kernel)) <|
  n_c (s_iload_n (pc := 24) (k := 1) (by decide +kernel)) <|
  n_c (s_iload_n (pc := 25) (k := 2) (by decide +kernel)) <|
  n_c (s_iconst (pc := 26) (n := 1) (by decide +kernel) (by decide +kernel)) <|
  n_c (s_icmp_ne (pc := 27) (off := 7) (by decide +kernel) (by decide +kernel)) <|
  n_c (s_iconst (pc := 30) (n := 1) (by decide +kernel) (by decide +kernel)) <|
  n_c (s_goto (pc := 31) (off := 4) (by decide +kernel) (by decide +kernel)) <|
  n_c (s_iconst (pc := 34) (n := 0) (by decide +kernel) (by decide +kernel)) <|
  n_c (s_callS (pc := 35) (csX9_weighed N) (by decide) okX9_weighed w_1282 w_1281 (by decide +kernel)) <|
  n_c (s_iret (pc := 38) rfl (by decide +kernel)) <|
  n_e
def fX11_weighings_35 (N : Nat) (s0 : Int32) (s1 : Int32) (M : nM) : Option (Int32 × nM) :=
  (fX9_weighed N s1 s0 M).bind fun p1 =>
  some (p1.1, p1.2)
set_option maxRecDepth 200000 in
theorem bX11_weighings_35 {l : Launch} {w : nW} (N : Nat) {G : nG} (s0 : Int32) (s1 : Int32) (M : nM) (r : Int32 × nM) (h : fX11_weighings_35 N s0 s1 M = some r) : n_At l w 1 mX11_weighings 35 [] [.int s0, .int s1] (G, M) (dv_i r.1, (G, r.2)) :=
  n_seg (fin := n_fin dv_i G) (K := []) 5 (iX11_weighings N) n_ke (by rfl) h
def fX11_weighings (N : Nat) (x1 : Int32) (x2 : Int32) (M : nM) : Option (Int32 × nM) :=
  (fX11_within x2 (0 : Int32) (1 : Int32) M).bind fun p1 =>
  if p1.1 = 0 then
    some ((-1 : Int32), p1.2)
  else
    (fX11_within x1 ((2 : Int32) + x2) (1000 : Int32) p1.2).bind fun p2 =>
    if ¬ p2.1 = 0 then
      if ¬ x2 = (1 : Int32) then
        fX11_weighings_35 N (0 : Int32) x1 p2.2
      else
        fX11_weighings_35 N (1 : Int32) x1 p2.2
    else
      some ((-1 : Int32), p2.2)
set_option maxRecDepth 200000 in
theorem bX11_weighings_0 {l : Launch} {w : nW} (N : Nat) {G : nG} (x1 : Int32) (x2 : Int32) (M : nM) (r : Int32 × nM) (h : fX11_weighings N x1 x2 M = some r) : n_At l w 1 mX11_weighings 0 [(1, .int x1), (2, .int x2)] [] (G, M) (dv_i r.1, (G, r.2)) :=
  n_seg (fin := n_fin dv_i G) (K := [(35, fun lv st M => n_pI st (fun s0 st => n_pI st (fun s1 st => n_pE st (fX11_weighings_35 N s0 s1 M))))]) 26 (iX11_weighings N) (n_kc (fun lv st M r h => by
      obtain ⟨s0, t0, rfl, h1⟩ := n_pI_x h
      obtain ⟨s1, t1, rfl, h2⟩ := n_pI_x h1
      obtain ⟨rfl, h3⟩ := n_pE_x h2
      exact n_sub n_qe (bX11_weighings_35 N s0 s1 M r h3)) n_ke) (by rfl) h
theorem eX11_weighings {l : Launch} {w : nW} (N : Nat) {G : nG} (z1 : Int32) (z2 : Int32) (M : nM) (r : Int32 × nM) (h : fX11_weighings N z1 z2 M = some r) : n_Met l w 1 mX11_weighings [.ref 1, .int z1, .int z2] (G, M) (dv_i r.1, (G, r.2)) :=
  n_entry (by decide +kernel) rfl (Nat.le_of_ble_eq_true rfl) (n_sub (lv := [(0, .ref 1), (1, .int z1), (2, .int z2)]) (n_qc rfl (n_qc rfl n_qe)) (bX11_weighings_0 N z1 z2 M r h))
abbrev hX11_weighings (N : Nat) : nF := fun T as M k => n_pC 1 as (fun as => n_pI as (fun z1 as => n_pI as (fun z2 as => n_pE as ((fX11_weighings N z1 z2 M).bind fun p => k (dv_i p.1) p.2))))
theorem csX11_weighings {l : Launch} {w : nW} (N : Nat) {G : nG} : n_CS l w 1 mX11_weighings G (hX11_weighings N) := fun T as M k r h => by
  obtain ⟨t0, rfl, h1⟩ := n_pC_x h
  obtain ⟨z1, t1, rfl, h2⟩ := n_pI_x h1
  obtain ⟨z2, t2, rfl, h3⟩ := n_pI_x h2
  obtain ⟨rfl, hE⟩ := n_pE_x h3
  obtain ⟨p, hp, hk⟩ := Option.bind_eq_some_iff.mp hE
  exact ⟨_, _, eX11_weighings N z1 z2 M p hp, hk⟩
/-! ===== SleightHouseModel.weighings(II)I ===== -/
def mX12_weighings : nY := (RX12, yX12_weighings, cX12_weighings, 5, some .int)
theorem okX12_weighings : n_MOK mX12_weighings 2 := ⟨w_2095, w_151, ⟨by decide +kernel, by decide +kernel, by decide +kernel⟩, by decide⟩
abbrev aX12_weighings (N : Nat) : List (Nat × nO (Int32 × nM)) := [(0, o_aload 0 1), (1, o_push (.int (0 : Int32)) 2), (2, o_pIc 107 0 5), (5, o_aload 0 6), (6, o_iload 1 7), (7, o_iload 2 8), (8, o_push (.int (1 : Int32)) 9), (9, oc_ne 16 12), (12, o_push (.int (3 : Int32)) 13), (13, o_goto 17), (16, o_push (.int (2 : Int32)) 17), (17, o_push (.int (1000 : Int32)) 20), (20, o_callVc 107 3 (hX12_isIn) 23), (23, oi_eq 36 26), (26, o_aload 0 27), (27, o_iload 2 28), (28, o_push (.int (0 : Int32)) 29), (29, o_push (.int (1 : Int32)) 30), (30, o_callVc 107 3 (hX12_isIn) 33), (33, oi_ne 38 36), (36, o_push (.int (-1 : Int32)) 37), (37, o_iret), (38, o_push (.int (0 : Int32)) 39), (39, o_istore 5 3 40), (40, o_push (.int (1 : Int32)) 41), (41, o_istore 5 4 43), (43, o_iload 2 44), (44, oi_ne 52 47), (47, o_iload 4 49), (49, o_goto 58), (52, o_iload 4 54), (54, o_push (.int (1 : Int32)) 55), (55, o_isub 56), (56, o_push (.int (2 : Int32)) 57), (57, o_idiv 58), (58, o_iload 1 59), (59, oc_ge 75 62), (62, o_iload 3 63), (63, o_push (.int (1 : Int32)) 64), (64, o_iadd 65), (65, o_istore 5 3 66), (66, o_iload 4 68), (68, o_push (.int (3 : Int32)) 69), (69, o_imul 70), (70, o_istore 5 4 72), (72, o_goto 43), (75, o_iload 3 76), (76, o_iret)]
set_option maxRecDepth 200000 in
theorem iX12_weighings {l : Launch} {w : nW} (N : Nat) {G : nG} (hG : n_GOK G) : n_AllS l w 1 mX12_weighings G (n_fin dv_i G) (aX12_weighings N) :=
  n_c (s_aload_n (pc := 0) (k := 0) (by decide +kernel)) <|
  n_c (s_iconst (pc := 1) (n := 0) (by decide +kernel) (by decide +kernel)) <|
  n_c (s_pIc (s_putI (pc := 2) (ci := 12) (k := 0) (idx := 146) nok12 (by decide) rfl rfl (by decide +kernel) w_1407) (gk107 hG)) <|
  n_c (s_aload_n (pc := 5) (k := 0) (by decide +kernel)) <|
  n_c (s_iload_n (pc := 6) (k := 1) (by decide +kernel)) <|
  n_c (s_iload_n (pc := 7) (k := 2) (by decide +kernel)) <|
  n_c (s_iconst (pc := 8) (n := 1) (by decide +kernel) (by decide +kernel)) <|
  n_c (s_icmp_ne (pc := 9) (off := 7) (by decide +kernel) (by decide +kernel)) <|
  n_c (s_iconst (pc := 12) (n := 3) (by decide +kernel) (by decide +kernel)) <|
  n_c (s_goto (pc := 13) (off := 4) (by decide +kernel) (by decide +kernel)) <|
  n_c (s_iconst (pc := 16) (n := 2) (by decide +kernel) (by decide +kernel)) <|
  n_c (s_sipush (pc := 17) (n := 1000) (by decide +kernel) (by decide +kernel)) <|
  n_c (s_callVc (s_callV (pc := 20) (csX12_isIn) (by decide) okX12_isIn nok12 w_1659 w_46 w_1657 (by decide +kernel)) (gk107 hG)) <|
  n_c (s_if_eq (pc := 23) (off := 13) (by decide +kernel) (by decide +kernel)) <|
  n_c (s_aload_n (pc := 26) (k := 0) (by decide +kernel)) <|
  n_c (s_iload_n (pc := 27) (k := 2) (by decide +kernel)) <|
  n_c (s_iconst (pc := 28) (n := 0) (by decide +kernel) (by decide +kernel)) <|
  n_c (s_iconst (pc := 29) (n := 1) (by decide +kernel) (by decide +kernel)) <|
  n_c (s_callVc (s_callV (pc := 30) (csX12_isIn) (by decide) okX12_isIn nok12 w_1659 w_46 w_1657 (by decide +kernel)) (gk107 hG)) <|
  n_c (s_if_ne (pc := 33) (off := 5) (by decide +kernel) (by decide +kernel)) <|
  n_c (s_iconst (pc := 36) (n := -1) (by decide +kernel) (by decide +kernel)) <|
  n_c (s_iret (pc := 37) rfl (by decide +kernel)) <|
  n_c (s_iconst (pc := 38) (n := 0) (by decide +kernel) (by decide +kernel)) <|
  n_c (s_istore_n (pc := 39) (k := 3) (by decide +kernel)) <|
  n_c (s_iconst (pc := 40) (n := 1) (by decide +kernel) (by decide +kernel)) <|
  n_c (s_istore (pc := 41) (by decide +kernel)) <|
  n_c (s_iload_n (pc := 43) (k := 2) (by decide +kernel)) <|
  n_c (s_if_ne (pc := 44) (off := 8) (by decide +kernel) (by decide +kernel)) <|
  n_c (s_iload (pc := 47) (by decide +kernel)) <|
  n_c (s_goto (pc := 49) (off := 9) (by decide +kernel) (by decide +kernel)) <|
  n_c (s_iload (pc := 52) (by decide +kernel)) <|
  n_c (s_iconst (pc := 54) (n := 1) (by decide +kernel) (by decide +kernel)) <|
  n_c (s_isub (pc := 55) (by decide +kernel)) <|
  n_c (s_iconst (pc := 56) (n := 2) (by decide +kernel) (by decide +kernel)) <|
  n_c (s_idiv (pc := 57) (by decide +kernel)) <|
  n_c (s_iload_n (pc := 58) (k := 1) (by decide +kernel)) <|
  n_c (s_icmp_ge (pc := 59) (off := 16) (by decide +kernel) (by decide +kernel)) <|
  n_c (s_iload_n (pc := 62) (k := 3) (by decide +kernel)) <|
  n_c (s_iconst (pc := 63) (n := 1) (by decide +kernel) (by decide +kernel)) <|
  n_c (s_iadd (pc := 64) (by decide +kernel)) <|
  n_c (s_istore_n (pc := 65) (k := 3) (by decide +kernel)) <|
  n_c (s_iload (pc := 66) (by decide +kernel)) <|
  n_c (s_iconst (pc := 68) (n := 3) (by decide +kernel) (by decide +kernel)) <|
  n_c (s_imul (pc := 69) (by decide +kernel)) <|
  n_c (s_istore (pc := 70) (by decide +kernel)) <|
  n_c (s_goto (pc := 72) (off := -29) (by decide +kernel) (by decide +kernel)) <|
  n_c (s_iload_n (pc := 75) (k := 3) (by decide +kernel)) <|
  n_c (s_iret (pc := 76) rfl (by decide +kernel)) <|
  n_e
def fX12_weighings_58 (N : Nat) (k43 : Int32 → Int32 → Int32 → Int32 → nM → Option (Int32 × nM)) (x1 : Int32) (x2 : Int32) (x3 : Int32) (x4 : Int32) (s0 : Int32) (M : nM) : Option (Int32 × nM) :=
  if x1 ≤ s0 then
    some (x3, M)
  else
    let v1 : Int32 := (x3 + (1 : Int32))
    let v2 : Int32 := (x4 * (3 : Int32))
    k43 x1 x2 v1 v2 M
set_option maxRecDepth 200000 in
theorem bX12_weighings_58 {l : Launch} {w : nW} (N : Nat) {G : nG} (hG : n_GOK G) (k43 : Int32 → Int32 → Int32 → Int32 → nM → Option (Int32 × nM)) (hk43 : ∀ (x1 : Int32) (x2 : Int32) (x3 : Int32) (x4 : Int32) (M : nM) (r : Int32 × nM), k43 x1 x2 x3 x4 M = some r → n_At l w 1 mX12_weighings 43 [(1, .int x1), (2, .int x2), (3, .int x3), (4, .int x4)] [] (G, M) (dv_i r.1, (G, r.2))) (x1 : Int32) (x2 : Int32) (x3 : Int32) (x4 : Int32) (s0 : Int32) (M : nM) (r : Int32 × nM) (h : fX12_weighings_58 N k43 x1 x2 x3 x4 s0 M = some r) : n_At l w 1 mX12_weighings 58 [(1, .int x1), (2, .int x2), (3, .int x3), (4, .int x4)] [.int s0] (G, M) (dv_i r.1, (G, r.2)) :=
  n_seg (fin := n_fin dv_i G) (K := [(43, fun lv st M => n_lI lv 1 (fun x1 => n_lI lv 2 (fun x2 => n_lI lv 3 (fun x3 => n_lI lv 4 (fun x4 => n_pE st (k43 x1 x2 x3 x4 M))))))]) 16 (iX12_weighings N hG) (n_kc (fun lv st M r h => by
      obtain ⟨x1, e1, h1⟩ := n_lI_x h
      obtain ⟨x2, e2, h2⟩ := n_lI_x h1
      obtain ⟨x3, e3, h3⟩ := n_lI_x h2
      obtain ⟨x4, e4, h4⟩ := n_lI_x h3
      obtain ⟨rfl, h5⟩ := n_pE_x h4
      exact n_sub (n_qc e1 (n_qc e2 (n_qc e3 (n_qc e4 n_qe)))) (hk43 x1 x2 x3 x4 M r h5)) n_ke) (by rfl) h
def fX12_weighings_43 (N : Nat) : Nat → Int32 → Int32 → Int32 → Int32 → nM → Option (Int32 × nM)
  | 0, _, _, _, _, _ => none
  | n + 1, x1, x2, x3, x4, M =>
    if ¬ x2 = 0 then
      if (2 : Int32) = 0 then none else
      fX12_weighings_58 N (fun x1 x2 x3 x4 M => fX12_weighings_43 N n x1 x2 x3 x4 M) x1 x2 x3 x4 ((x4 - (1 : Int32)) / (2 : Int32)) M
    else
      fX12_weighings_58 N (fun x1 x2 x3 x4 M => fX12_weighings_43 N n x1 x2 x3 x4 M) x1 x2 x3 x4 x4 M
set_option maxRecDepth 200000 in
theorem bX12_weighings_43 {l : Launch} {w : nW} (N : Nat) {G : nG} (hG : n_GOK G) : ∀ (n : Nat) (x1 : Int32) (x2 : Int32) (x3 : Int32) (x4 : Int32) (M : nM) (r : Int32 × nM), fX12_weighings_43 N n x1 x2 x3 x4 M = some r → n_At l w 1 mX12_weighings 43 [(1, .int x1), (2, .int x2), (3, .int x3), (4, .int x4)] [] (G, M) (dv_i r.1, (G, r.2)) := by
  intro n
  induction n with
  | zero => intro x1 x2 x3 x4 M r h; cases (show (none : Option (Int32 × nM)) = some r from h)
  | succ n ih =>
    intro x1 x2 x3 x4 M r h
    exact n_seg (fin := n_fin dv_i G) (K := [(58, fun lv st M => n_lI lv 1 (fun x1 => n_lI lv 2 (fun x2 => n_lI lv 3 (fun x3 => n_lI lv 4 (fun x4 => n_pI st (fun s0 st => n_pE st (fX12_weighings_58 N (fun x1 x2 x3 x4 M => fX12_weighings_43 N n x1 x2 x3 x4 M) x1 x2 x3 x4 s0 M)))))))]) 12 (iX12_weighings N hG) (n_kc (fun lv st M r h => by
      obtain ⟨x1, e1, h1⟩ := n_lI_x h
      obtain ⟨x2, e2, h2⟩ := n_lI_x h1
      obtain ⟨x3, e3, h3⟩ := n_lI_x h2
      obtain ⟨x4, e4, h4⟩ := n_lI_x h3
      obtain ⟨s0, t0, rfl, h5⟩ := n_pI_x h4
      obtain ⟨rfl, h6⟩ := n_pE_x h5
      exact n_sub (n_qc e1 (n_qc e2 (n_qc e3 (n_qc e4 n_qe)))) (bX12_weighings_58 N hG (fun x1 x2 x3 x4 M => fX12_weighings_43 N n x1 x2 x3 x4 M) ih x1 x2 x3 x4 s0 M r h6)) n_ke) (by rfl) h
def fX12_weighings_17 (N : Nat) (x1 : Int32) (x2 : Int32) (s0 : Int32) (s1 : Int32) (M : nM) : Option (Int32 × nM) :=
  (fX12_isIn s1 s0 (1000 : Int32) M).bind fun p1 =>
  if p1.1 = 0 then
    some ((-1 : Int32), p1.2)
  else
    (fX12_isIn x2 (0 : Int32) (1 : Int32) p1.2).bind fun p2 =>
    if ¬ p2.1 = 0 then
      fX12_weighings_43 N N x1 x2 (0 : Int32) (1 : Int32) p2.2
    else
      some ((-1 : Int32), p2.2)
set_option maxRecDepth 200000 in
theorem bX12_weighings_17 {l : Launch} {w : nW} (N : Nat) {G : nG} (hG : n_GOK G) (x1 : Int32) (x2 : Int32) (s0 : Int32) (s1 : Int32) (M : nM) (r : Int32 × nM) (h : fX12_weighings_17 N x1 x2 s0 s1 M = some r) : n_At l w 1 mX12_weighings 17 [(0, .ref 107), (1, .int x1), (2, .int x2)] [.int s0, .int s1, .ref 107] (G, M) (dv_i r.1, (G, r.2)) :=
  n_seg (fin := n_fin dv_i G) (K := [(43, fun lv st M => n_lI lv 1 (fun x1 => n_lI lv 2 (fun x2 => n_lI lv 3 (fun x3 => n_lI lv 4 (fun x4 => n_pE st (fX12_weighings_43 N N x1 x2 x3 x4 M))))))]) 20 (iX12_weighings N hG) (n_kc (fun lv st M r h => by
      obtain ⟨x1, e1, h1⟩ := n_lI_x h
      obtain ⟨x2, e2, h2⟩ := n_lI_x h1
      obtain ⟨x3, e3, h3⟩ := n_lI_x h2
      obtain ⟨x4, e4, h4⟩ := n_lI_x h3
      obtain ⟨rfl, h5⟩ := n_pE_x h4
      exact n_sub (n_qc e1 (n_qc e2 (n_qc e3 (n_qc e4 n_qe)))) (bX12_weighings_43 N hG N x1 x2 x3 x4 M r h5)) n_ke) (by rfl) h
def fX12_weighings (N : Nat) (x1 : Int32) (x2 : Int32) (M : nM) : Option (Int32 × nM) :=
  let M1 : nM := n_up M 107 0 (0 : Int32)
  if ¬ x2 = (1 : Int32) then
    fX12_weighings_17 N x1 x2 (2 : Int32) x1 M1
  else
    fX12_weighings_17 N x1 x2 (3 : Int32) x1 M1
set_option maxRecDepth 200000 in
theorem bX12_weighings_0 {l : Launch} {w : nW} (N : Nat) {G : nG} (hG : n_GOK G) (x1 : Int32) (x2 : Int32) (M : nM) (r : Int32 × nM) (h : fX12_weighings N x1 x2 M = some r) : n_At l w 1 mX12_weighings 0 [(0, .ref 107), (1, .int x1), (2, .int x2)] [] (G, M) (dv_i r.1, (G, r.2)) :=
  n_seg (fin := n_fin dv_i G) (K := [(17, fun lv st M => n_lC 107 lv 0 (n_lI lv 1 (fun x1 => n_lI lv 2 (fun x2 => n_pI st (fun s0 st => n_pI st (fun s1 st => n_pC 107 st (fun st => n_pE st (fX12_weighings_17 N x1 x2 s0 s1 M))))))))]) 14 (iX12_weighings N hG) (n_kc (fun lv st M r h => by
      obtain ⟨e0, h1⟩ := n_lC_x h
      obtain ⟨x1, e1, h2⟩ := n_lI_x h1
      obtain ⟨x2, e2, h3⟩ := n_lI_x h2
      obtain ⟨s0, t0, rfl, h4⟩ := n_pI_x h3
      obtain ⟨s1, t1, rfl, h5⟩ := n_pI_x h4
      obtain ⟨t2, rfl, h6⟩ := n_pC_x h5
      obtain ⟨rfl, h7⟩ := n_pE_x h6
      exact n_sub (n_qc e0 (n_qc e1 (n_qc e2 n_qe))) (bX12_weighings_17 N hG x1 x2 s0 s1 M r h7)) n_ke) (by rfl) h
theorem eX12_weighings {l : Launch} {w : nW} (N : Nat) {G : nG} (hG : n_GOK G) (z1 : Int32) (z2 : Int32) (M : nM) (r : Int32 × nM) (h : fX12_weighings N z1 z2 M = some r) : n_Met l w 1 mX12_weighings [.ref 107, .int z1, .int z2] (G, M) (dv_i r.1, (G, r.2)) :=
  n_entry (by decide +kernel) rfl (Nat.le_of_ble_eq_true rfl) (n_sub (lv := [(0, .ref 107), (1, .int z1), (2, .int z2)]) (n_qc rfl (n_qc rfl (n_qc rfl n_qe))) (bX12_weighings_0 N hG z1 z2 M r h))
abbrev hX12_weighings (N : Nat) : nF := fun T as M k => n_pC 107 as (fun as => n_pI as (fun z1 as => n_pI as (fun z2 as => n_pE as ((fX12_weighings N z1 z2 M).bind fun p => k (dv_i p.1) p.2))))
theorem csX12_weighings {l : Launch} {w : nW} (N : Nat) {G : nG} (hG : n_GOK G) : n_CS l w 1 mX12_weighings G (hX12_weighings N) := fun T as M k r h => by
  obtain ⟨t0, rfl, h1⟩ := n_pC_x h
  obtain ⟨z1, t1, rfl, h2⟩ := n_pI_x h1
  obtain ⟨z2, t2, rfl, h3⟩ := n_pI_x h2
  obtain ⟨rfl, hE⟩ := n_pE_x h3
  obtain ⟨p, hp, hk⟩ := Option.bind_eq_some_iff.mp hE
  exact ⟨_, _, eX12_weighings N hG z1 z2 M p hp, hk⟩
/-! ===== SleightHouse$Thought.movesOff(I)I ===== -/
def mX9_movesOff : nY := (RX9, yX9_movesOff, cX9_movesOff, 3, some .int)
theorem okX9_movesOff : n_MOK mX9_movesOff 1 := ⟨w_1291, w_149, ⟨by decide +kernel, by decide +kernel, by decide +kernel⟩, by decide⟩
abbrev aX9_movesOff (N : Nat) : List (Nat × nO (Int32 × nM)) := [(0, o_push (.int (0 : Int32)) 1), (1, o_istore 3 1 2), (2, o_push (.int (0 : Int32)) 3), (3, o_istore 3 2 4), (4, o_iload 2 5), (5, o_iload 0 6), (6, oc_ge 31 9), (9, o_push (.int (2 : Int32)) 10), (10, o_iload 1 11), (11, o_imul 12), (12, o_iload 2 13), (13, o_push (.int (2 : Int32)) 14), (14, o_irem 15), (15, oi_ne 22 18), (18, o_push (.int (1 : Int32)) 19), (19, o_goto 23), (22, o_push (.int (0 : Int32)) 23), (23, o_iadd 24), (24, o_istore 3 1 25), (25, o_inc 3 2 (1 : Int32) 28), (28, o_goto 4), (31, o_iload 1 32), (32, o_iret)]
set_option maxRecDepth 200000 in
theorem iX9_movesOff {l : Launch} {w : nW} (N : Nat) {G : nG} : n_AllS l w 0 mX9_movesOff G (n_fin dv_i G) (aX9_movesOff N) :=
  n_c (s_iconst (pc := 0) (n := 0) (by decide +kernel) (by decide +kernel)) <|
  n_c (s_istore_n (pc := 1) (k := 1) (by decide +kernel)) <|
  n_c (s_iconst (pc := 2) (n := 0) (by decide +kernel) (by decide +kernel)) <|
  n_c (s_istore_n (pc := 3) (k := 2) (by decide +kernel)) <|
  n_c (s_iload_n (pc := 4) (k := 2) (by decide +kernel)) <|
  n_c (s_iload_n (pc := 5) (k := 0) (by decide +kernel)) <|
  n_c (s_icmp_ge (pc := 6) (off := 25) (by decide +kernel) (by decide +kernel)) <|
  n_c (s_iconst (pc := 9) (n := 2) (by decide +kernel) (by decide +kernel)) <|
  n_c (s_iload_n (pc := 10) (k := 1) (by decide +kernel)) <|
  n_c (s_imul (pc := 11) (by decide +kernel)) <|
  n_c (s_iload_n (pc := 12) (k := 2) (by decide +kernel)) <|
  n_c (s_iconst (pc := 13) (n := 2) (by decide +kernel) (by decide +kernel)) <|
  n_c (s_irem (pc := 14) (by decide +kernel)) <|
  n_c (s_if_ne (pc := 15) (off := 7) (by decide +kernel) (by decide +kernel)) <|
  n_c (s_iconst (pc := 18) (n := 1) (by decide +kernel) (by decide +kernel)) <|
  n_c (s_goto (pc := 19) (off := 4) (by decide +kernel) (by decide +kernel)) <|
  n_c (s_iconst (pc := 22) (n := 0) (by decide +kernel) (by decide +kernel)) <|
  n_c (s_iadd (pc := 23) (by decide +kernel)) <|
  n_c (s_istore_n (pc := 24) (k := 1) (by decide +kernel)) <|
  n_c (s_iinc (pc := 25) (n := 1) (by decide +kernel) (by decide +kernel)) <|
  n_c (s_goto (pc := 28) (off := -24) (by decide +kernel) (by decide +kernel)) <|
  n_c (s_iload_n (pc := 31) (k := 1) (by decide +kernel)) <|
  n_c (s_iret (pc := 32) rfl (by decide +kernel)) <|
  n_e
def fX9_movesOff_4 (N : Nat) : Nat → Int32 → Int32 → Int32 → nM → Option (Int32 × nM)
  | 0, _, _, _, _ => none
  | n + 1, x0, x1, x2, M =>
    if x0 ≤ x2 then
      some (x1, M)
    else
      if (2 : Int32) = 0 then none else
      if ¬ (x2 - x2 / (2 : Int32) * (2 : Int32)) = 0 then
        let v1 : Int32 := (((2 : Int32) * x1) + (0 : Int32))
        let v2 : Int32 := (x2 + (1 : Int32))
        fX9_movesOff_4 N n x0 v1 v2 M
      else
        let v3 : Int32 := (((2 : Int32) * x1) + (1 : Int32))
        let v4 : Int32 := (x2 + (1 : Int32))
        fX9_movesOff_4 N n x0 v3 v4 M
set_option maxRecDepth 200000 in
theorem bX9_movesOff_4 {l : Launch} {w : nW} (N : Nat) {G : nG} : ∀ (n : Nat) (x0 : Int32) (x1 : Int32) (x2 : Int32) (M : nM) (r : Int32 × nM), fX9_movesOff_4 N n x0 x1 x2 M = some r → n_At l w 0 mX9_movesOff 4 [(0, .int x0), (1, .int x1), (2, .int x2)] [] (G, M) (dv_i r.1, (G, r.2)) := by
  intro n
  induction n with
  | zero => intro x0 x1 x2 M r h; cases (show (none : Option (Int32 × nM)) = some r from h)
  | succ n ih =>
    intro x0 x1 x2 M r h
    exact n_seg (fin := n_fin dv_i G) (K := [(4, fun lv st M => n_lI lv 0 (fun x0 => n_lI lv 1 (fun x1 => n_lI lv 2 (fun x2 => n_pE st (fX9_movesOff_4 N n x0 x1 x2 M)))))]) 26 (iX9_movesOff N) (n_kc (fun lv st M r h => by
      obtain ⟨x0, e0, h1⟩ := n_lI_x h
      obtain ⟨x1, e1, h2⟩ := n_lI_x h1
      obtain ⟨x2, e2, h3⟩ := n_lI_x h2
      obtain ⟨rfl, h4⟩ := n_pE_x h3
      exact n_sub (n_qc e0 (n_qc e1 (n_qc e2 n_qe))) (ih x0 x1 x2 M r h4)) n_ke) (by rfl) h
def fX9_movesOff (N : Nat) (x0 : Int32) (M : nM) : Option (Int32 × nM) :=
  fX9_movesOff_4 N N x0 (0 : Int32) (0 : Int32) M
set_option maxRecDepth 200000 in
theorem bX9_movesOff_0 {l : Launch} {w : nW} (N : Nat) {G : nG} (x0 : Int32) (M : nM) (r : Int32 × nM) (h : fX9_movesOff N x0 M = some r) : n_At l w 0 mX9_movesOff 0 [(0, .int x0)] [] (G, M) (dv_i r.1, (G, r.2)) :=
  n_seg (fin := n_fin dv_i G) (K := [(4, fun lv st M => n_lI lv 0 (fun x0 => n_lI lv 1 (fun x1 => n_lI lv 2 (fun x2 => n_pE st (fX9_movesOff_4 N N x0 x1 x2 M)))))]) 7 (iX9_movesOff N) (n_kc (fun lv st M r h => by
      obtain ⟨x0, e0, h1⟩ := n_lI_x h
      obtain ⟨x1, e1, h2⟩ := n_lI_x h1
      obtain ⟨x2, e2, h3⟩ := n_lI_x h2
      obtain ⟨rfl, h4⟩ := n_pE_x h3
      exact n_sub (n_qc e0 (n_qc e1 (n_qc e2 n_qe))) (bX9_movesOff_4 N N x0 x1 x2 M r h4)) n_ke) (by rfl) h
theorem eX9_movesOff {l : Launch} {w : nW} (N : Nat) {G : nG} (z0 : Int32) (M : nM) (r : Int32 × nM) (h : fX9_movesOff N z0 M = some r) : n_Met l w 0 mX9_movesOff [.int z0] (G, M) (dv_i r.1, (G, r.2)) :=
  n_entry (by decide +kernel) rfl (Nat.le_of_ble_eq_true rfl) (n_sub (lv := [(0, .int z0)]) (n_qc rfl n_qe) (bX9_movesOff_0 N z0 M r h))
abbrev hX9_movesOff (N : Nat) : nF := fun T as M k => n_pI as (fun z0 as => n_pE as ((fX9_movesOff N z0 M).bind fun p => k (dv_i p.1) p.2))
theorem csX9_movesOff {l : Launch} {w : nW} (N : Nat) {G : nG} : n_CS l w 0 mX9_movesOff G (hX9_movesOff N) := fun T as M k r h => by
  obtain ⟨z0, t0, rfl, h1⟩ := n_pI_x h
  obtain ⟨rfl, hE⟩ := n_pE_x h1
  obtain ⟨p, hp, hk⟩ := Option.bind_eq_some_iff.mp hE
  exact ⟨_, _, eX9_movesOff N z0 M p hp, hk⟩
/-! ===== SleightHouse.rings(II)I ===== -/
def mX11_rings : nY := (RX11, yX11_rings, cX11_rings, 5, some .int)
theorem okX11_rings : n_MOK mX11_rings 2 := ⟨w_1287, w_137, ⟨by decide +kernel, by decide +kernel, by decide +kernel⟩, by decide⟩
abbrev aX11_rings (N : Nat) : List (Nat × nO (Int32 × nM)) := [(0, o_iload 1 1), (1, o_push (.int (1 : Int32)) 2), (2, o_push (.int (20 : Int32)) 4), (4, o_call 3 (hX11_within) 7), (7, oi_eq 21 10), (10, o_iload 2 11), (11, o_push (.int (-1 : Int32)) 12), (12, o_push (.int (1000000 : Int32)) 15), (15, o_call 3 (hX11_within) 18), (18, oi_ne 23 21), (21, o_push (.int (-1 : Int32)) 22), (22, o_iret), (23, o_iload 1 24), (24, o_call 1 (hX9_movesOff N) 27), (27, o_istore 5 3 28), (28, o_iload 2 29), (29, o_push (.int (-1 : Int32)) 30), (30, oc_ne 35 33), (33, o_iload 3 34), (34, o_iret), (35, o_iload 3 36), (36, o_iload 2 37), (37, o_isub 38), (38, o_istore 5 4 40), (40, o_iload 4 42), (42, oi_ge 49 45), (45, o_push (.int (-1 : Int32)) 46), (46, o_goto 56), (49, o_iload 4 51), (51, o_iload 4 53), (53, o_push (.int (1 : Int32)) 54), (54, o_ishr 55), (55, o_ixor 56), (56, o_iret)]
set_option maxRecDepth 200000 in
theorem iX11_rings {l : Launch} {w : nW} (N : Nat) {G : nG} : n_AllS l w 1 mX11_rings G (n_fin dv_i G) (aX11_rings N) :=
  n_c (s_iload_n (pc := 0) (k := 1) (by decide +kernel)) <|
  n_c (s_iconst (pc := 1) (n := 1) (by decide +kernel) (by decide +kernel)) <|
  n_c (s_bipush (pc := 2) (n := 20) (by decide +kernel) (by decide +kernel)) <|
  n_c (s_callS (pc := 4) (csX11_within) (by decide) okX11_within w_610 w_609 (by decide +kernel)) <|
  n_c (s_if_eq (pc := 7) (off := 14) (by decide +kernel) (by decide +kernel)) <|
  n_c (s_iload_n (pc := 10) (k := 2) (by decide +kernel)) <|
  n_c (s_iconst (pc := 11) (n := -1) (by decide +kernel) (by decide +kernel)) <|
  n_c (s_ldcw (pc := 12) (i := 365) (by decide +kernel) w_1288) <|
  n_c (s_callS (pc := 15) (csX11_within) (by decide) okX11_within w_610 w_609 (by decide +kernel)) <|
  n_c (s_if_ne (pc := 18) (off := 5) (by decide +kernel) (by decide +kernel)) <|
  n_c (s_iconst (pc := 21) (n := -1) (by decide +kernel) (by decide +kernel)) <|
  n_c (s_iret (pc := 22) rfl (by decide +kernel)) <|
  n_c (s_iload_n (pc := 23) (k := 1) (by decide +kernel)) <|
  n_c (s_callS (pc := 24) (csX9_movesOff N) (by decide) okX9_movesOff w_1290 w_1289 (by decide +kernel)) <|
  n_c (s_istore_n (pc := 27) (k := 3) (by decide +kernel)) <|
  n_c (s_iload_n (pc := 28) (k := 2) (by decide +kernel)) <|
  n_c (s_iconst (pc := 29) (n := -1) (by decide +kernel) (by decide +kernel)) <|
  n_c (s_icmp_ne (pc := 30) (off := 5) (by decide +kernel) (by decide +kernel)) <|
  n_c (s_iload_n (pc := 33) (k := 3) (by decide +kernel)) <|
  n_c (s_iret (pc := 34) rfl (by decide +kernel)) <|
  n_c (s_iload_n (pc := 35) (k := 3) (by decide +kernel)) <|
  n_c (s_iload_n (pc := 36) (k := 2) (by decide +kernel)) <|
  n_c (s_isub (pc := 37) (by decide +kernel)) <|
  n_c (s_istore (pc := 38) (by decide +kernel)) <|
  n_c (s_iload (pc := 40) (by decide +kernel)) <|
  n_c (s_if_ge (pc := 42) (off := 7) (by decide +kernel) (by decide +kernel)) <|
  n_c (s_iconst (pc := 45) (n := -1) (by decide +kernel) (by decide +kernel)) <|
  n_c (s_goto (pc := 46) (off := 10) (by decide +kernel) (by decide +kernel)) <|
  n_c (s_iload (pc := 49) (by decide +kernel)) <|
  n_c (s_iload (pc := 51) (by decide +kernel)) <|
  n_c (s_iconst (pc := 53) (n := 1) (by decide +kernel) (by decide +kernel)) <|
  n_c (s_ishr (pc := 54) (by decide +kernel)) <|
  n_c (s_ixor (pc := 55) (by decide +kernel)) <|
  n_c (s_iret (pc := 56) rfl (by decide +kernel)) <|
  n_e
def fX11_rings (N : Nat) (x1 : Int32) (x2 : Int32) (M : nM) : Option (Int32 × nM) :=
  (fX11_within x1 (1 : Int32) (20 : Int32) M).bind fun p1 =>
  if p1.1 = 0 then
    some ((-1 : Int32), p1.2)
  else
    (fX11_within x2 (-1 : Int32) (1000000 : Int32) p1.2).bind fun p2 =>
    if ¬ p2.1 = 0 then
      (fX9_movesOff N x1 p2.2).bind fun p3 =>
      if ¬ x2 = (-1 : Int32) then
        let v4 : Int32 := (p3.1 - x2)
        if 0 ≤ v4 then
          some ((v4 ^^^ (v4 >>> ((1 : Int32) &&& 31))), p3.2)
        else
          some ((-1 : Int32), p3.2)
      else
        some (p3.1, p3.2)
    else
      some ((-1 : Int32), p2.2)
set_option maxRecDepth 200000 in
theorem bX11_rings_0 {l : Launch} {w : nW} (N : Nat) {G : nG} (x1 : Int32) (x2 : Int32) (M : nM) (r : Int32 × nM) (h : fX11_rings N x1 x2 M = some r) : n_At l w 1 mX11_rings 0 [(1, .int x1), (2, .int x2)] [] (G, M) (dv_i r.1, (G, r.2)) :=
  n_seg (fin := n_fin dv_i G) (K := []) 40 (iX11_rings N) n_ke (by rfl) h
theorem eX11_rings {l : Launch} {w : nW} (N : Nat) {G : nG} (z1 : Int32) (z2 : Int32) (M : nM) (r : Int32 × nM) (h : fX11_rings N z1 z2 M = some r) : n_Met l w 1 mX11_rings [.ref 1, .int z1, .int z2] (G, M) (dv_i r.1, (G, r.2)) :=
  n_entry (by decide +kernel) rfl (Nat.le_of_ble_eq_true rfl) (n_sub (lv := [(0, .ref 1), (1, .int z1), (2, .int z2)]) (n_qc rfl (n_qc rfl n_qe)) (bX11_rings_0 N z1 z2 M r h))
abbrev hX11_rings (N : Nat) : nF := fun T as M k => n_pC 1 as (fun as => n_pI as (fun z1 as => n_pI as (fun z2 as => n_pE as ((fX11_rings N z1 z2 M).bind fun p => k (dv_i p.1) p.2))))
theorem csX11_rings {l : Launch} {w : nW} (N : Nat) {G : nG} : n_CS l w 1 mX11_rings G (hX11_rings N) := fun T as M k r h => by
  obtain ⟨t0, rfl, h1⟩ := n_pC_x h
  obtain ⟨z1, t1, rfl, h2⟩ := n_pI_x h1
  obtain ⟨z2, t2, rfl, h3⟩ := n_pI_x h2
  obtain ⟨rfl, hE⟩ := n_pE_x h3
  obtain ⟨p, hp, hk⟩ := Option.bind_eq_some_iff.mp hE
  exact ⟨_, _, eX11_rings N z1 z2 M p hp, hk⟩
/-! ===== SleightHouseModel.movesFrom(I)I ===== -/
def mX12_movesFrom : nY := (RX12, yX12_movesFrom, cX12_movesFrom, 5, some .int)
theorem okX12_movesFrom : n_MOK mX12_movesFrom 1 := ⟨w_2104, w_151, ⟨by decide +kernel, by decide +kernel, by decide +kernel⟩, by decide⟩
abbrev aX12_movesFrom (N : Nat) : List (Nat × nO (Int32 × nM)) := [(0, o_push (.int (0 : Int32)) 1), (1, o_istore 5 2 2), (2, o_push (.int (0 : Int32)) 3), (3, o_istore 5 3 4), (4, o_iload 1 5), (5, o_push (.int (1 : Int32)) 6), (6, o_isub 7), (7, o_istore 5 4 9), (9, o_iload 4 11), (11, oi_lt 30 14), (14, o_push (.int (1 : Int32)) 15), (15, o_iload 3 16), (16, o_isub 17), (17, o_istore 5 3 18), (18, o_push (.int (2 : Int32)) 19), (19, o_iload 2 20), (20, o_imul 21), (21, o_iload 3 22), (22, o_iadd 23), (23, o_istore 5 2 24), (24, o_inc 5 4 (-1 : Int32) 27), (27, o_goto 9), (30, o_iload 2 31), (31, o_iret)]
set_option maxRecDepth 200000 in
theorem iX12_movesFrom {l : Launch} {w : nW} (N : Nat) {G : nG} : n_AllS l w 0 mX12_movesFrom G (n_fin dv_i G) (aX12_movesFrom N) :=
  n_c (s_iconst (pc := 0) (n := 0) (by decide +kernel) (by decide +kernel)) <|
  n_c (s_istore_n (pc := 1) (k := 2) (by decide +kernel)) <|
  n_c (s_iconst (pc := 2) (n := 0) (by decide +kernel) (by decide +kernel)) <|
  n_c (s_istore_n (pc := 3) (k := 3) (by decide +kernel)) <|
  n_c (s_iload_n (pc := 4) (k := 1) (by decide +kernel)) <|
  n_c (s_iconst (pc := 5) (n := 1) (by decide +kernel) (by decide +kernel)) <|
  n_c (s_isub (pc := 6) (by decide +kernel)) <|
  n_c (s_istore (pc := 7) (by decide +kernel)) <|
  n_c (s_iload (pc := 9) (by decide +kernel)) <|
  n_c (s_if_lt (pc := 11) (off := 19) (by decide +kernel) (by decide +kernel)) <|
  n_c (s_iconst (pc := 14) (n := 1) (by decide +kernel) (by decide +kernel)) <|
  n_c (s_iload_n (pc := 15) (k := 3) (by decide +kernel)) <|
  n_c (s_isub (pc := 16) (by decide +kernel)) <|
  n_c (s_istore_n (pc := 17) (k := 3) (by decide +kernel)) <|
  n_c (s_iconst (pc := 18) (n := 2) (by decide +kernel) (by decide +kernel)) <|
  n_c (s_iload_n (pc := 19) (k := 2) (by decide +kernel)) <|
  n_c (s_imul (pc := 20) (by decide +kernel)) <|
  n_c (s_iload_n (pc := 21) (k := 3) (by decide +kernel)) <|
  n_c (s_iadd (pc := 22) (by decide +kernel)) <|
  n_c (s_istore_n (pc := 23) (k := 2) (by decide +kernel)) <|
  n_c (s_iinc (pc := 24) (n := -1) (by decide +kernel) (by decide +kernel)) <|
  n_c (s_goto (pc := 27) (off := -18) (by decide +kernel) (by decide +kernel)) <|
  n_c (s_iload_n (pc := 30) (k := 2) (by decide +kernel)) <|
  n_c (s_iret (pc := 31) rfl (by decide +kernel)) <|
  n_e
def fX12_movesFrom_9 (N : Nat) : Nat → Int32 → Int32 → Int32 → nM → Option (Int32 × nM)
  | 0, _, _, _, _ => none
  | n + 1, x2, x3, x4, M =>
    if x4 < 0 then
      some (x2, M)
    else
      let v1 : Int32 := ((1 : Int32) - x3)
      let v2 : Int32 := (((2 : Int32) * x2) + v1)
      let v3 : Int32 := (x4 + (-1 : Int32))
      fX12_movesFrom_9 N n v2 v1 v3 M
set_option maxRecDepth 200000 in
theorem bX12_movesFrom_9 {l : Launch} {w : nW} (N : Nat) {G : nG} : ∀ (n : Nat) (x2 : Int32) (x3 : Int32) (x4 : Int32) (M : nM) (r : Int32 × nM), fX12_movesFrom_9 N n x2 x3 x4 M = some r → n_At l w 0 mX12_movesFrom 9 [(2, .int x2), (3, .int x3), (4, .int x4)] [] (G, M) (dv_i r.1, (G, r.2)) := by
  intro n
  induction n with
  | zero => intro x2 x3 x4 M r h; cases (show (none : Option (Int32 × nM)) = some r from h)
  | succ n ih =>
    intro x2 x3 x4 M r h
    exact n_seg (fin := n_fin dv_i G) (K := [(9, fun lv st M => n_lI lv 2 (fun x2 => n_lI lv 3 (fun x3 => n_lI lv 4 (fun x4 => n_pE st (fX12_movesFrom_9 N n x2 x3 x4 M)))))]) 19 (iX12_movesFrom N) (n_kc (fun lv st M r h => by
      obtain ⟨x2, e2, h1⟩ := n_lI_x h
      obtain ⟨x3, e3, h2⟩ := n_lI_x h1
      obtain ⟨x4, e4, h3⟩ := n_lI_x h2
      obtain ⟨rfl, h4⟩ := n_pE_x h3
      exact n_sub (n_qc e2 (n_qc e3 (n_qc e4 n_qe))) (ih x2 x3 x4 M r h4)) n_ke) (by rfl) h
def fX12_movesFrom (N : Nat) (x1 : Int32) (M : nM) : Option (Int32 × nM) :=
  let v1 : Int32 := (x1 - (1 : Int32))
  fX12_movesFrom_9 N N (0 : Int32) (0 : Int32) v1 M
set_option maxRecDepth 200000 in
theorem bX12_movesFrom_0 {l : Launch} {w : nW} (N : Nat) {G : nG} (x1 : Int32) (M : nM) (r : Int32 × nM) (h : fX12_movesFrom N x1 M = some r) : n_At l w 0 mX12_movesFrom 0 [(1, .int x1)] [] (G, M) (dv_i r.1, (G, r.2)) :=
  n_seg (fin := n_fin dv_i G) (K := [(9, fun lv st M => n_lI lv 2 (fun x2 => n_lI lv 3 (fun x3 => n_lI lv 4 (fun x4 => n_pE st (fX12_movesFrom_9 N N x2 x3 x4 M)))))]) 11 (iX12_movesFrom N) (n_kc (fun lv st M r h => by
      obtain ⟨x2, e2, h1⟩ := n_lI_x h
      obtain ⟨x3, e3, h2⟩ := n_lI_x h1
      obtain ⟨x4, e4, h3⟩ := n_lI_x h2
      obtain ⟨rfl, h4⟩ := n_pE_x h3
      exact n_sub (n_qc e2 (n_qc e3 (n_qc e4 n_qe))) (bX12_movesFrom_9 N N x2 x3 x4 M r h4)) n_ke) (by rfl) h
theorem eX12_movesFrom {l : Launch} {w : nW} (N : Nat) {G : nG} (z1 : Int32) (M : nM) (r : Int32 × nM) (h : fX12_movesFrom N z1 M = some r) : n_Met l w 0 mX12_movesFrom [.ref 107, .int z1] (G, M) (dv_i r.1, (G, r.2)) :=
  n_entry (by decide +kernel) rfl (Nat.le_of_ble_eq_true rfl) (n_sub (lv := [(0, .ref 107), (1, .int z1)]) (n_qc rfl n_qe) (bX12_movesFrom_0 N z1 M r h))
abbrev hX12_movesFrom (N : Nat) : nF := fun T as M k => n_pC 107 as (fun as => n_pI as (fun z1 as => n_pE as ((fX12_movesFrom N z1 M).bind fun p => k (dv_i p.1) p.2)))
theorem csX12_movesFrom {l : Launch} {w : nW} (N : Nat) {G : nG} : n_CS l w 0 mX12_movesFrom G (hX12_movesFrom N) := fun T as M k r h => by
  obtain ⟨t0, rfl, h1⟩ := n_pC_x h
  obtain ⟨z1, t1, rfl, h2⟩ := n_pI_x h1
  obtain ⟨rfl, hE⟩ := n_pE_x h2
  obtain ⟨p, hp, hk⟩ := Option.bind_eq_some_iff.mp hE
  exact ⟨_, _, eX12_movesFrom N z1 M p hp, hk⟩
/-! ===== SleightHouseModel.rings(II)I ===== -/
def mX12_rings : nY := (RX12, yX12_rings, cX12_rings, 4, some .int)
theorem okX12_rings : n_MOK mX12_rings 2 := ⟨w_2099, w_151, ⟨by decide +kernel, by decide +kernel, by decide +kernel⟩, by decide⟩
abbrev aX12_rings (N : Nat) : List (Nat × nO (Int32 × nM)) := [(0, o_aload 0 1), (1, o_push (.int (0 : Int32)) 2), (2, o_pIc 107 0 5), (5, o_aload 0 6), (6, o_iload 1 7), (7, o_push (.int (1 : Int32)) 8), (8, o_push (.int (20 : Int32)) 10), (10, o_callVc 107 3 (hX12_isIn) 13), (13, oi_eq 28 16), (16, o_aload 0 17), (17, o_iload 2 18), (18, o_push (.int (-1 : Int32)) 19), (19, o_push (.int (1000000 : Int32)) 22), (22, o_callVc 107 3 (hX12_isIn) 25), (25, oi_ne 30 28), (28, o_push (.int (-1 : Int32)) 29), (29, o_iret), (30, o_aload 0 31), (31, o_iload 1 32), (32, o_callVc 107 1 (hX12_movesFrom N) 35), (35, o_istore 4 3 36), (36, o_iload 2 37), (37, o_push (.int (-1 : Int32)) 38), (38, oc_ne 43 41), (41, o_iload 3 42), (42, o_iret), (43, o_iload 2 44), (44, o_iload 3 45), (45, oc_le 52 48), (48, o_push (.int (-1 : Int32)) 49), (49, o_goto 61), (52, o_iload 3 53), (53, o_iload 2 54), (54, o_isub 55), (55, o_iload 3 56), (56, o_iload 2 57), (57, o_isub 58), (58, o_push (.int (1 : Int32)) 59), (59, o_ishr 60), (60, o_ixor 61), (61, o_iret)]
set_option maxRecDepth 200000 in
theorem iX12_rings {l : Launch} {w : nW} (N : Nat) {G : nG} (hG : n_GOK G) : n_AllS l w 1 mX12_rings G (n_fin dv_i G) (aX12_rings N) :=
  n_c (s_aload_n (pc := 0) (k := 0) (by decide +kernel)) <|
  n_c (s_iconst (pc := 1) (n := 0) (by decide +kernel) (by decide +kernel)) <|
  n_c (s_pIc (s_putI (pc := 2) (ci := 12) (k := 0) (idx := 146) nok12 (by decide) rfl rfl (by decide +kernel) w_1407) (gk107 hG)) <|
  n_c (s_aload_n (pc := 5) (k := 0) (by decide +kernel)) <|
  n_c (s_iload_n (pc := 6) (k := 1) (by decide +kernel)) <|
  n_c (s_iconst (pc := 7) (n := 1) (by decide +kernel) (by decide +kernel)) <|
  n_c (s_bipush (pc := 8) (n := 20) (by decide +kernel) (by decide +kernel)) <|
  n_c (s_callVc (s_callV (pc := 10) (csX12_isIn) (by decide) okX12_isIn nok12 w_1659 w_46 w_1657 (by decide +kernel)) (gk107 hG)) <|
  n_c (s_if_eq (pc := 13) (off := 15) (by decide +kernel) (by decide +kernel)) <|
  n_c (s_aload_n (pc := 16) (k := 0) (by decide +kernel)) <|
  n_c (s_iload_n (pc := 17) (k := 2) (by decide +kernel)) <|
  n_c (s_iconst (pc := 18) (n := -1) (by decide +kernel) (by decide +kernel)) <|
  n_c (s_ldcw (pc := 19) (i := 480) (by decide +kernel) w_2100) <|
  n_c (s_callVc (s_callV (pc := 22) (csX12_isIn) (by decide) okX12_isIn nok12 w_1659 w_46 w_1657 (by decide +kernel)) (gk107 hG)) <|
  n_c (s_if_ne (pc := 25) (off := 5) (by decide +kernel) (by decide +kernel)) <|
  n_c (s_iconst (pc := 28) (n := -1) (by decide +kernel) (by decide +kernel)) <|
  n_c (s_iret (pc := 29) rfl (by decide +kernel)) <|
  n_c (s_aload_n (pc := 30) (k := 0) (by decide +kernel)) <|
  n_c (s_iload_n (pc := 31) (k := 1) (by decide +kernel)) <|
  n_c (s_callVc (s_callV (pc := 32) (csX12_movesFrom N) (by decide) okX12_movesFrom nok12 w_2103 w_125 w_2101 (by decide +kernel)) (gk107 hG)) <|
  n_c (s_istore_n (pc := 35) (k := 3) (by decide +kernel)) <|
  n_c (s_iload_n (pc := 36) (k := 2) (by decide +kernel)) <|
  n_c (s_iconst (pc := 37) (n := -1) (by decide +kernel) (by decide +kernel)) <|
  n_c (s_icmp_ne (pc := 38) (off := 5) (by decide +kernel) (by decide +kernel)) <|
  n_c (s_iload_n (pc := 41) (k := 3) (by decide +kernel)) <|
  n_c (s_iret (pc := 42) rfl (by decide +kernel)) <|
  n_c (s_iload_n (pc := 43) (k := 2) (by decide +kernel)) <|
  n_c (s_iload_n (pc := 44) (k := 3) (by decide +kernel)) <|
  n_c (s_icmp_le (pc := 45) (off := 7) (by decide +kernel) (by decide +kernel)) <|
  n_c (s_iconst (pc := 48) (n := -1) (by decide +kernel) (by decide +kernel)) <|
  n_c (s_goto (pc := 49) (off := 12) (by decide +kernel) (by decide +kernel)) <|
  n_c (s_iload_n (pc := 52) (k := 3) (by decide +kernel)) <|
  n_c (s_iload_n (pc := 53) (k := 2) (by decide +kernel)) <|
  n_c (s_isub (pc := 54) (by decide +kernel)) <|
  n_c (s_iload_n (pc := 55) (k := 3) (by decide +kernel)) <|
  n_c (s_iload_n (pc := 56) (k := 2) (by decide +kernel)) <|
  n_c (s_isub (pc := 57) (by decide +kernel)) <|
  n_c (s_iconst (pc := 58) (n := 1) (by decide +kernel) (by decide +kernel)) <|
  n_c (s_ishr (pc := 59) (by decide +kernel)) <|
  n_c (s_ixor (pc := 60) (by decide +kernel)) <|
  n_c (s_iret (pc := 61) rfl (by decide +kernel)) <|
  n_e
def fX12_rings (N : Nat) (x1 : Int32) (x2 : Int32) (M : nM) : Option (Int32 × nM) :=
  let M1 : nM := n_up M 107 0 (0 : Int32)
  (fX12_isIn x1 (1 : Int32) (20 : Int32) M1).bind fun p2 =>
  if p2.1 = 0 then
    some ((-1 : Int32), p2.2)
  else
    (fX12_isIn x2 (-1 : Int32) (1000000 : Int32) p2.2).bind fun p3 =>
    if ¬ p3.1 = 0 then
      (fX12_movesFrom N x1 p3.2).bind fun p4 =>
      if ¬ x2 = (-1 : Int32) then
        if x2 ≤ p4.1 then
          some (((p4.1 - x2) ^^^ ((p4.1 - x2) >>> ((1 : Int32) &&& 31))), p4.2)
        else
          some ((-1 : Int32), p4.2)
      else
        some (p4.1, p4.2)
    else
      some ((-1 : Int32), p3.2)
set_option maxRecDepth 200000 in
theorem bX12_rings_0 {l : Launch} {w : nW} (N : Nat) {G : nG} (hG : n_GOK G) (x1 : Int32) (x2 : Int32) (M : nM) (r : Int32 × nM) (h : fX12_rings N x1 x2 M = some r) : n_At l w 1 mX12_rings 0 [(0, .ref 107), (1, .int x1), (2, .int x2)] [] (G, M) (dv_i r.1, (G, r.2)) :=
  n_seg (fin := n_fin dv_i G) (K := []) 47 (iX12_rings N hG) n_ke (by rfl) h
theorem eX12_rings {l : Launch} {w : nW} (N : Nat) {G : nG} (hG : n_GOK G) (z1 : Int32) (z2 : Int32) (M : nM) (r : Int32 × nM) (h : fX12_rings N z1 z2 M = some r) : n_Met l w 1 mX12_rings [.ref 107, .int z1, .int z2] (G, M) (dv_i r.1, (G, r.2)) :=
  n_entry (by decide +kernel) rfl (Nat.le_of_ble_eq_true rfl) (n_sub (lv := [(0, .ref 107), (1, .int z1), (2, .int z2)]) (n_qc rfl (n_qc rfl (n_qc rfl n_qe))) (bX12_rings_0 N hG z1 z2 M r h))
abbrev hX12_rings (N : Nat) : nF := fun T as M k => n_pC 107 as (fun as => n_pI as (fun z1 as => n_pI as (fun z2 as => n_pE as ((fX12_rings N z1 z2 M).bind fun p => k (dv_i p.1) p.2))))
theorem csX12_rings {l : Launch} {w : nW} (N : Nat) {G : nG} (hG : n_GOK G) : n_CS l w 1 mX12_rings G (hX12_rings N) := fun T as M k r h => by
  obtain ⟨t0, rfl, h1⟩ := n_pC_x h
  obtain ⟨z1, t1, rfl, h2⟩ := n_pI_x h1
  obtain ⟨z2, t2, rfl, h3⟩ := n_pI_x h2
  obtain ⟨rfl, hE⟩ := n_pE_x h3
  obtain ⟨p, hp, hk⟩ := Option.bind_eq_some_iff.mp hE
  exact ⟨_, _, eX12_rings N hG z1 z2 M p hp, hk⟩
/-! ===== SleightHouse$Thought.choices(II)I ===== -/
def mX9_choices : nY := (RX9, yX9_choices, cX9_choices, 4, some .int)
theorem okX9_choices : n_MOK mX9_choices 2 := ⟨w_1298, w_149, ⟨by decide +kernel, by decide +kernel, by decide +kernel⟩, by decide⟩
abbrev aX9_choices (N : Nat) : List (Nat × nO (Int32 × nM)) := [(0, o_push (.int (1 : Int32)) 1), (1, o_istore 4 2 2), (2, o_push (.int (1 : Int32)) 3), (3, o_istore 4 3 4), (4, o_iload 3 5), (5, o_iload 1 6), (6, oc_gt 25 9), (9, o_iload 2 10), (10, o_iload 0 11), (11, o_iload 1 12), (12, o_isub 13), (13, o_iload 3 14), (14, o_iadd 15), (15, o_imul 16), (16, o_iload 3 17), (17, o_idiv 18), (18, o_istore 4 2 19), (19, o_inc 4 3 (1 : Int32) 22), (22, o_goto 4), (25, o_iload 2 26), (26, o_iret)]
set_option maxRecDepth 200000 in
theorem iX9_choices {l : Launch} {w : nW} (N : Nat) {G : nG} : n_AllS l w 0 mX9_choices G (n_fin dv_i G) (aX9_choices N) :=
  n_c (s_iconst (pc := 0) (n := 1) (by decide +kernel) (by decide +kernel)) <|
  n_c (s_istore_n (pc := 1) (k := 2) (by decide +kernel)) <|
  n_c (s_iconst (pc := 2) (n := 1) (by decide +kernel) (by decide +kernel)) <|
  n_c (s_istore_n (pc := 3) (k := 3) (by decide +kernel)) <|
  n_c (s_iload_n (pc := 4) (k := 3) (by decide +kernel)) <|
  n_c (s_iload_n (pc := 5) (k := 1) (by decide +kernel)) <|
  n_c (s_icmp_gt (pc := 6) (off := 19) (by decide +kernel) (by decide +kernel)) <|
  n_c (s_iload_n (pc := 9) (k := 2) (by decide +kernel)) <|
  n_c (s_iload_n (pc := 10) (k := 0) (by decide +kernel)) <|
  n_c (s_iload_n (pc := 11) (k := 1) (by decide +kernel)) <|
  n_c (s_isub (pc := 12) (by decide +kernel)) <|
  n_c (s_iload_n (pc := 13) (k := 3) (by decide +kernel)) <|
  n_c (s_iadd (pc := 14) (by decide +kernel)) <|
  n_c (s_imul (pc := 15) (by decide +kernel)) <|
  n_c (s_iload_n (pc := 16) (k := 3) (by decide +kernel)) <|
  n_c (s_idiv (pc := 17) (by decide +kernel)) <|
  n_c (s_istore_n (pc := 18) (k := 2) (by decide +kernel)) <|
  n_c (s_iinc (pc := 19) (n := 1) (by decide +kernel) (by decide +kernel)) <|
  n_c (s_goto (pc := 22) (off := -18) (by decide +kernel) (by decide +kernel)) <|
  n_c (s_iload_n (pc := 25) (k := 2) (by decide +kernel)) <|
  n_c (s_iret (pc := 26) rfl (by decide +kernel)) <|
  n_e
def fX9_choices_4 (N : Nat) : Nat → Int32 → Int32 → Int32 → Int32 → nM → Option (Int32 × nM)
  | 0, _, _, _, _, _ => none
  | n + 1, x0, x1, x2, x3, M =>
    if x1 < x3 then
      some (x2, M)
    else
      if x3 = 0 then none else
      let v1 : Int32 := ((x2 * ((x0 - x1) + x3)) / x3)
      let v2 : Int32 := (x3 + (1 : Int32))
      fX9_choices_4 N n x0 x1 v1 v2 M
set_option maxRecDepth 200000 in
theorem bX9_choices_4 {l : Launch} {w : nW} (N : Nat) {G : nG} : ∀ (n : Nat) (x0 : Int32) (x1 : Int32) (x2 : Int32) (x3 : Int32) (M : nM) (r : Int32 × nM), fX9_choices_4 N n x0 x1 x2 x3 M = some r → n_At l w 0 mX9_choices 4 [(0, .int x0), (1, .int x1), (2, .int x2), (3, .int x3)] [] (G, M) (dv_i r.1, (G, r.2)) := by
  intro n
  induction n with
  | zero => intro x0 x1 x2 x3 M r h; cases (show (none : Option (Int32 × nM)) = some r from h)
  | succ n ih =>
    intro x0 x1 x2 x3 M r h
    exact n_seg (fin := n_fin dv_i G) (K := [(4, fun lv st M => n_lI lv 0 (fun x0 => n_lI lv 1 (fun x1 => n_lI lv 2 (fun x2 => n_lI lv 3 (fun x3 => n_pE st (fX9_choices_4 N n x0 x1 x2 x3 M))))))]) 20 (iX9_choices N) (n_kc (fun lv st M r h => by
      obtain ⟨x0, e0, h1⟩ := n_lI_x h
      obtain ⟨x1, e1, h2⟩ := n_lI_x h1
      obtain ⟨x2, e2, h3⟩ := n_lI_x h2
      obtain ⟨x3, e3, h4⟩ := n_lI_x h3
      obtain ⟨rfl, h5⟩ := n_pE_x h4
      exact n_sub (n_qc e0 (n_qc e1 (n_qc e2 (n_qc e3 n_qe)))) (ih x0 x1 x2 x3 M r h5)) n_ke) (by rfl) h
def fX9_choices (N : Nat) (x0 : Int32) (x1 : Int32) (M : nM) : Option (Int32 × nM) :=
  fX9_choices_4 N N x0 x1 (1 : Int32) (1 : Int32) M
set_option maxRecDepth 200000 in
theorem bX9_choices_0 {l : Launch} {w : nW} (N : Nat) {G : nG} (x0 : Int32) (x1 : Int32) (M : nM) (r : Int32 × nM) (h : fX9_choices N x0 x1 M = some r) : n_At l w 0 mX9_choices 0 [(0, .int x0), (1, .int x1)] [] (G, M) (dv_i r.1, (G, r.2)) :=
  n_seg (fin := n_fin dv_i G) (K := [(4, fun lv st M => n_lI lv 0 (fun x0 => n_lI lv 1 (fun x1 => n_lI lv 2 (fun x2 => n_lI lv 3 (fun x3 => n_pE st (fX9_choices_4 N N x0 x1 x2 x3 M))))))]) 7 (iX9_choices N) (n_kc (fun lv st M r h => by
      obtain ⟨x0, e0, h1⟩ := n_lI_x h
      obtain ⟨x1, e1, h2⟩ := n_lI_x h1
      obtain ⟨x2, e2, h3⟩ := n_lI_x h2
      obtain ⟨x3, e3, h4⟩ := n_lI_x h3
      obtain ⟨rfl, h5⟩ := n_pE_x h4
      exact n_sub (n_qc e0 (n_qc e1 (n_qc e2 (n_qc e3 n_qe)))) (bX9_choices_4 N N x0 x1 x2 x3 M r h5)) n_ke) (by rfl) h
theorem eX9_choices {l : Launch} {w : nW} (N : Nat) {G : nG} (z0 : Int32) (z1 : Int32) (M : nM) (r : Int32 × nM) (h : fX9_choices N z0 z1 M = some r) : n_Met l w 0 mX9_choices [.int z0, .int z1] (G, M) (dv_i r.1, (G, r.2)) :=
  n_entry (by decide +kernel) rfl (Nat.le_of_ble_eq_true rfl) (n_sub (lv := [(0, .int z0), (1, .int z1)]) (n_qc rfl (n_qc rfl n_qe)) (bX9_choices_0 N z0 z1 M r h))
abbrev hX9_choices (N : Nat) : nF := fun T as M k => n_pI as (fun z0 as => n_pI as (fun z1 as => n_pE as ((fX9_choices N z0 z1 M).bind fun p => k (dv_i p.1) p.2)))
theorem csX9_choices {l : Launch} {w : nW} (N : Nat) {G : nG} : n_CS l w 0 mX9_choices G (hX9_choices N) := fun T as M k r h => by
  obtain ⟨z0, t0, rfl, h1⟩ := n_pI_x h
  obtain ⟨z1, t1, rfl, h2⟩ := n_pI_x h1
  obtain ⟨rfl, hE⟩ := n_pE_x h2
  obtain ⟨p, hp, hk⟩ := Option.bind_eq_some_iff.mp hE
  exact ⟨_, _, eX9_choices N z0 z1 M p hp, hk⟩
/-! ===== SleightHouse$Thought.allWrong(I)I ===== -/
def mX9_allWrong : nY := (RX9, yX9_allWrong, cX9_allWrong, 3, some .int)
theorem okX9_allWrong : n_MOK mX9_allWrong 1 := ⟨w_1301, w_149, ⟨by decide +kernel, by decide +kernel, by decide +kernel⟩, by decide⟩
abbrev aX9_allWrong (N : Nat) : List (Nat × nO (Int32 × nM)) := [(0, o_push (.int (1 : Int32)) 1), (1, o_istore 3 1 2), (2, o_push (.int (1 : Int32)) 3), (3, o_istore 3 2 4), (4, o_iload 2 5), (5, o_iload 0 6), (6, oc_gt 31 9), (9, o_iload 1 10), (10, o_iload 2 11), (11, o_imul 12), (12, o_iload 2 13), (13, o_push (.int (2 : Int32)) 14), (14, o_irem 15), (15, oi_ne 22 18), (18, o_push (.int (1 : Int32)) 19), (19, o_goto 23), (22, o_push (.int (-1 : Int32)) 23), (23, o_iadd 24), (24, o_istore 3 1 25), (25, o_inc 3 2 (1 : Int32) 28), (28, o_goto 4), (31, o_iload 1 32), (32, o_iret)]
set_option maxRecDepth 200000 in
theorem iX9_allWrong {l : Launch} {w : nW} (N : Nat) {G : nG} : n_AllS l w 0 mX9_allWrong G (n_fin dv_i G) (aX9_allWrong N) :=
  n_c (s_iconst (pc := 0) (n := 1) (by decide +kernel) (by decide +kernel)) <|
  n_c (s_istore_n (pc := 1) (k := 1) (by decide +kernel)) <|
  n_c (s_iconst (pc := 2) (n := 1) (by decide +kernel) (by decide +kernel)) <|
  n_c (s_istore_n (pc := 3) (k := 2) (by decide +kernel)) <|
  n_c (s_iload_n (pc := 4) (k := 2) (by decide +kernel)) <|
  n_c (s_iload_n (pc := 5) (k := 0) (by decide +kernel)) <|
  n_c (s_icmp_gt (pc := 6) (off := 25) (by decide +kernel) (by decide +kernel)) <|
  n_c (s_iload_n (pc := 9) (k := 1) (by decide +kernel)) <|
  n_c (s_iload_n (pc := 10) (k := 2) (by decide +kernel)) <|
  n_c (s_imul (pc := 11) (by decide +kernel)) <|
  n_c (s_iload_n (pc := 12) (k := 2) (by decide +kernel)) <|
  n_c (s_iconst (pc := 13) (n := 2) (by decide +kernel) (by decide +kernel)) <|
  n_c (s_irem (pc := 14) (by decide +kernel)) <|
  n_c (s_if_ne (pc := 15) (off := 7) (by decide +kernel) (by decide +kernel)) <|
  n_c (s_iconst (pc := 18) (n := 1) (by decide +kernel) (by decide +kernel)) <|
  n_c (s_goto (pc := 19) (off := 4) (by decide +kernel) (by decide +kernel)) <|
  n_c (s_iconst (pc := 22) (n := -1) (by decide +kernel) (by decide +kernel)) <|
  n_c (s_iadd (pc := 23) (by decide +kernel)) <|
  n_c (s_istore_n (pc := 24) (k := 1) (by decide +kernel)) <|
  n_c (s_iinc (pc := 25) (n := 1) (by decide +kernel) (by decide +kernel)) <|
  n_c (s_goto (pc := 28) (off := -24) (by decide +kernel) (by decide +kernel)) <|
  n_c (s_iload_n (pc := 31) (k := 1) (by decide +kernel)) <|
  n_c (s_iret (pc := 32) rfl (by decide +kernel)) <|
  n_e
def fX9_allWrong_4 (N : Nat) : Nat → Int32 → Int32 → Int32 → nM → Option (Int32 × nM)
  | 0, _, _, _, _ => none
  | n + 1, x0, x1, x2, M =>
    if x0 < x2 then
      some (x1, M)
    else
      if (2 : Int32) = 0 then none else
      if ¬ (x2 - x2 / (2 : Int32) * (2 : Int32)) = 0 then
        let v1 : Int32 := ((x1 * x2) + (-1 : Int32))
        let v2 : Int32 := (x2 + (1 : Int32))
        fX9_allWrong_4 N n x0 v1 v2 M
      else
        let v3 : Int32 := ((x1 * x2) + (1 : Int32))
        let v4 : Int32 := (x2 + (1 : Int32))
        fX9_allWrong_4 N n x0 v3 v4 M
set_option maxRecDepth 200000 in
theorem bX9_allWrong_4 {l : Launch} {w : nW} (N : Nat) {G : nG} : ∀ (n : Nat) (x0 : Int32) (x1 : Int32) (x2 : Int32) (M : nM) (r : Int32 × nM), fX9_allWrong_4 N n x0 x1 x2 M = some r → n_At l w 0 mX9_allWrong 4 [(0, .int x0), (1, .int x1), (2, .int x2)] [] (G, M) (dv_i r.1, (G, r.2)) := by
  intro n
  induction n with
  | zero => intro x0 x1 x2 M r h; cases (show (none : Option (Int32 × nM)) = some r from h)
  | succ n ih =>
    intro x0 x1 x2 M r h
    exact n_seg (fin := n_fin dv_i G) (K := [(4, fun lv st M => n_lI lv 0 (fun x0 => n_lI lv 1 (fun x1 => n_lI lv 2 (fun x2 => n_pE st (fX9_allWrong_4 N n x0 x1 x2 M)))))]) 26 (iX9_allWrong N) (n_kc (fun lv st M r h => by
      obtain ⟨x0, e0, h1⟩ := n_lI_x h
      obtain ⟨x1, e1, h2⟩ := n_lI_x h1
      obtain ⟨x2, e2, h3⟩ := n_lI_x h2
      obtain ⟨rfl, h4⟩ := n_pE_x h3
      exact n_sub (n_qc e0 (n_qc e1 (n_qc e2 n_qe))) (ih x0 x1 x2 M r h4)) n_ke) (by rfl) h
def fX9_allWrong (N : Nat) (x0 : Int32) (M : nM) : Option (Int32 × nM) :=
  fX9_allWrong_4 N N x0 (1 : Int32) (1 : Int32) M
set_option maxRecDepth 200000 in
theorem bX9_allWrong_0 {l : Launch} {w : nW} (N : Nat) {G : nG} (x0 : Int32) (M : nM) (r : Int32 × nM) (h : fX9_allWrong N x0 M = some r) : n_At l w 0 mX9_allWrong 0 [(0, .int x0)] [] (G, M) (dv_i r.1, (G, r.2)) :=
  n_seg (fin := n_fin dv_i G) (K := [(4, fun lv st M => n_lI lv 0 (fun x0 => n_lI lv 1 (fun x1 => n_lI lv 2 (fun x2 => n_pE st (fX9_allWrong_4 N N x0 x1 x2 M)))))]) 7 (iX9_allWrong N) (n_kc (fun lv st M r h => by
      obtain ⟨x0, e0, h1⟩ := n_lI_x h
      obtain ⟨x1, e1, h2⟩ := n_lI_x h1
      obtain ⟨x2, e2, h3⟩ := n_lI_x h2
      obtain ⟨rfl, h4⟩ := n_pE_x h3
      exact n_sub (n_qc e0 (n_qc e1 (n_qc e2 n_qe))) (bX9_allWrong_4 N N x0 x1 x2 M r h4)) n_ke) (by rfl) h
theorem eX9_allWrong {l : Launch} {w : nW} (N : Nat) {G : nG} (z0 : Int32) (M : nM) (r : Int32 × nM) (h : fX9_allWrong N z0 M = some r) : n_Met l w 0 mX9_allWrong [.int z0] (G, M) (dv_i r.1, (G, r.2)) :=
  n_entry (by decide +kernel) rfl (Nat.le_of_ble_eq_true rfl) (n_sub (lv := [(0, .int z0)]) (n_qc rfl n_qe) (bX9_allWrong_0 N z0 M r h))
abbrev hX9_allWrong (N : Nat) : nF := fun T as M k => n_pI as (fun z0 as => n_pE as ((fX9_allWrong N z0 M).bind fun p => k (dv_i p.1) p.2))
theorem csX9_allWrong {l : Launch} {w : nW} (N : Nat) {G : nG} : n_CS l w 0 mX9_allWrong G (hX9_allWrong N) := fun T as M k r h => by
  obtain ⟨z0, t0, rfl, h1⟩ := n_pI_x h
  obtain ⟨rfl, hE⟩ := n_pE_x h1
  obtain ⟨p, hp, hk⟩ := Option.bind_eq_some_iff.mp hE
  exact ⟨_, _, eX9_allWrong N z0 M p hp, hk⟩
/-! ===== SleightHouse.hats(II)I ===== -/
def mX11_hats : nY := (RX11, yX11_hats, cX11_hats, 3, some .int)
theorem okX11_hats : n_MOK mX11_hats 2 := ⟨w_1295, w_137, ⟨by decide +kernel, by decide +kernel, by decide +kernel⟩, by decide⟩
abbrev aX11_hats (N : Nat) : List (Nat × nO (Int32 × nM)) := [(0, o_iload 1 1), (1, o_push (.int (1 : Int32)) 2), (2, o_push (.int (12 : Int32)) 4), (4, o_call 3 (hX11_within) 7), (7, oi_eq 19 10), (10, o_iload 2 11), (11, o_push (.int (0 : Int32)) 12), (12, o_iload 1 13), (13, o_call 3 (hX11_within) 16), (16, oi_ne 21 19), (19, o_push (.int (-1 : Int32)) 20), (20, o_iret), (21, o_iload 1 22), (22, o_iload 2 23), (23, o_call 2 (hX9_choices N) 26), (26, o_iload 1 27), (27, o_iload 2 28), (28, o_isub 29), (29, o_call 1 (hX9_allWrong N) 32), (32, o_imul 33), (33, o_iret)]
set_option maxRecDepth 200000 in
theorem iX11_hats {l : Launch} {w : nW} (N : Nat) {G : nG} : n_AllS l w 1 mX11_hats G (n_fin dv_i G) (aX11_hats N) :=
  n_c (s_iload_n (pc := 0) (k := 1) (by decide +kernel)) <|
  n_c (s_iconst (pc := 1) (n := 1) (by decide +kernel) (by decide +kernel)) <|
  n_c (s_bipush (pc := 2) (n := 12) (by decide +kernel) (by decide +kernel)) <|
  n_c (s_callS (pc := 4) (csX11_within) (by decide) okX11_within w_610 w_609 (by decide +kernel)) <|
  n_c (s_if_eq (pc := 7) (off := 12) (by decide +kernel) (by decide +kernel)) <|
  n_c (s_iload_n (pc := 10) (k := 2) (by decide +kernel)) <|
  n_c (s_iconst (pc := 11) (n := 0) (by decide +kernel) (by decide +kernel)) <|
  n_c (s_iload_n (pc := 12) (k := 1) (by decide +kernel)) <|
  n_c (s_callS (pc := 13) (csX11_within) (by decide) okX11_within w_610 w_609 (by decide +kernel)) <|
  n_c (s_if_ne (pc := 16) (off := 5) (by decide +kernel) (by decide +kernel)) <|
  n_c (s_iconst (pc := 19) (n := -1) (by decide +kernel) (by decide +kernel)) <|
  n_c (s_iret (pc := 20) rfl (by decide +kernel)) <|
  n_c (s_iload_n (pc := 21) (k := 1) (by decide +kernel)) <|
  n_c (s_iload_n (pc := 22) (k := 2) (by decide +kernel)) <|
  n_c (s_callS (pc := 23) (csX9_choices N) (by decide) okX9_choices w_1297 w_1296 (by decide +kernel)) <|
  n_c (s_iload_n (pc := 26) (k := 1) (by decide +kernel)) <|
  n_c (s_iload_n (pc := 27) (k := 2) (by decide +kernel)) <|
  n_c (s_isub (pc := 28) (by decide +kernel)) <|
  n_c (s_callS (pc := 29) (csX9_allWrong N) (by decide) okX9_allWrong w_1300 w_1299 (by decide +kernel)) <|
  n_c (s_imul (pc := 32) (by decide +kernel)) <|
  n_c (s_iret (pc := 33) rfl (by decide +kernel)) <|
  n_e
def fX11_hats (N : Nat) (x1 : Int32) (x2 : Int32) (M : nM) : Option (Int32 × nM) :=
  (fX11_within x1 (1 : Int32) (12 : Int32) M).bind fun p1 =>
  if p1.1 = 0 then
    some ((-1 : Int32), p1.2)
  else
    (fX11_within x2 (0 : Int32) x1 p1.2).bind fun p2 =>
    if ¬ p2.1 = 0 then
      (fX9_choices N x1 x2 p2.2).bind fun p3 =>
      (fX9_allWrong N (x1 - x2) p3.2).bind fun p4 =>
      some ((p3.1 * p4.1), p4.2)
    else
      some ((-1 : Int32), p2.2)
set_option maxRecDepth 200000 in
theorem bX11_hats_0 {l : Launch} {w : nW} (N : Nat) {G : nG} (x1 : Int32) (x2 : Int32) (M : nM) (r : Int32 × nM) (h : fX11_hats N x1 x2 M = some r) : n_At l w 1 mX11_hats 0 [(1, .int x1), (2, .int x2)] [] (G, M) (dv_i r.1, (G, r.2)) :=
  n_seg (fin := n_fin dv_i G) (K := []) 26 (iX11_hats N) n_ke (by rfl) h
theorem eX11_hats {l : Launch} {w : nW} (N : Nat) {G : nG} (z1 : Int32) (z2 : Int32) (M : nM) (r : Int32 × nM) (h : fX11_hats N z1 z2 M = some r) : n_Met l w 1 mX11_hats [.ref 1, .int z1, .int z2] (G, M) (dv_i r.1, (G, r.2)) :=
  n_entry (by decide +kernel) rfl (Nat.le_of_ble_eq_true rfl) (n_sub (lv := [(0, .ref 1), (1, .int z1), (2, .int z2)]) (n_qc rfl (n_qc rfl n_qe)) (bX11_hats_0 N z1 z2 M r h))
abbrev hX11_hats (N : Nat) : nF := fun T as M k => n_pC 1 as (fun as => n_pI as (fun z1 as => n_pI as (fun z2 as => n_pE as ((fX11_hats N z1 z2 M).bind fun p => k (dv_i p.1) p.2))))
theorem csX11_hats {l : Launch} {w : nW} (N : Nat) {G : nG} : n_CS l w 1 mX11_hats G (hX11_hats N) := fun T as M k r h => by
  obtain ⟨t0, rfl, h1⟩ := n_pC_x h
  obtain ⟨z1, t1, rfl, h2⟩ := n_pI_x h1
  obtain ⟨z2, t2, rfl, h3⟩ := n_pI_x h2
  obtain ⟨rfl, hE⟩ := n_pE_x h3
  obtain ⟨p, hp, hk⟩ := Option.bind_eq_some_iff.mp hE
  exact ⟨_, _, eX11_hats N z1 z2 M p hp, hk⟩
/-! ===== SleightHouseModel.hats(II)I ===== -/
def mX12_hats : nY := (RX12, yX12_hats, cX12_hats, 6, some .int)
theorem okX12_hats : n_MOK mX12_hats 2 := ⟨w_2108, w_151, ⟨by decide +kernel, by decide +kernel, by decide +kernel⟩, by decide⟩
abbrev aX12_hats (N : Nat) : List (Nat × nO (Int32 × nM)) := [(0, o_aload 0 1), (1, o_push (.int (0 : Int32)) 2), (2, o_pIc 107 0 5), (5, o_aload 0 6), (6, o_iload 1 7), (7, o_push (.int (1 : Int32)) 8), (8, o_push (.int (12 : Int32)) 10), (10, o_callVc 107 3 (hX12_isIn) 13), (13, oi_eq 26 16), (16, o_aload 0 17), (17, o_iload 2 18), (18, o_push (.int (0 : Int32)) 19), (19, o_iload 1 20), (20, o_callVc 107 3 (hX12_isIn) 23), (23, oi_ne 28 26), (26, o_push (.int (-1 : Int32)) 27), (27, o_iret), (28, o_push (.int (1 : Int32)) 29), (29, o_istore 6 3 30), (30, o_push (.int (0 : Int32)) 31), (31, o_istore 6 4 33), (33, o_iload 4 35), (35, o_iload 2 36), (36, oc_ge 57 39), (39, o_iload 3 40), (40, o_iload 1 41), (41, o_iload 4 43), (43, o_isub 44), (44, o_imul 45), (45, o_iload 4 47), (47, o_push (.int (1 : Int32)) 48), (48, o_iadd 49), (49, o_idiv 50), (50, o_istore 6 3 51), (51, o_inc 6 4 (1 : Int32) 54), (54, o_goto 33), (57, o_push (.int (1 : Int32)) 58), (58, o_istore 6 4 60), (60, o_push (.int (1 : Int32)) 61), (61, o_istore 6 5 63), (63, o_iload 5 65), (65, o_iload 1 66), (66, o_iload 2 67), (67, o_isub 68), (68, oc_gt 97 71), (71, o_iload 4 73), (73, o_iload 5 75), (75, o_imul 76), (76, o_iload 5 78), (78, o_push (.int (2 : Int32)) 79), (79, o_irem 80), (80, oi_ne 87 83), (83, o_push (.int (1 : Int32)) 84), (84, o_goto 88), (87, o_push (.int (-1 : Int32)) 88), (88, o_iadd 89), (89, o_istore 6 4 91), (91, o_inc 6 5 (1 : Int32) 94), (94, o_goto 63), (97, o_iload 3 98), (98, o_iload 4 100), (100, o_imul 101), (101, o_iret)]
set_option maxRecDepth 200000 in
theorem iX12_hats {l : Launch} {w : nW} (N : Nat) {G : nG} (hG : n_GOK G) : n_AllS l w 1 mX12_hats G (n_fin dv_i G) (aX12_hats N) :=
  n_c (s_aload_n (pc := 0) (k := 0) (by decide +kernel)) <|
  n_c (s_iconst (pc := 1) (n := 0) (by decide +kernel) (by decide +kernel)) <|
  n_c (s_pIc (s_putI (pc := 2) (ci := 12) (k := 0) (idx := 146) nok12 (by decide) rfl rfl (by decide +kernel) w_1407) (gk107 hG)) <|
  n_c (s_aload_n (pc := 5) (k := 0) (by decide +kernel)) <|
  n_c (s_iload_n (pc := 6) (k := 1) (by decide +kernel)) <|
  n_c (s_iconst (pc := 7) (n := 1) (by decide +kernel) (by decide +kernel)) <|
  n_c (s_bipush (pc := 8) (n := 12) (by decide +kernel) (by decide +kernel)) <|
  n_c (s_callVc (s_callV (pc := 10) (csX12_isIn) (by decide) okX12_isIn nok12 w_1659 w_46 w_1657 (by decide +kernel)) (gk107 hG)) <|
  n_c (s_if_eq (pc := 13) (off := 13) (by decide +kernel) (by decide +kernel)) <|
  n_c (s_aload_n (pc := 16) (k := 0) (by decide +kernel)) <|
  n_c (s_iload_n (pc := 17) (k := 2) (by decide +kernel)) <|
  n_c (s_iconst (pc := 18) (n := 0) (by decide +kernel) (by decide +kernel)) <|
  n_c (s_iload_n (pc := 19) (k := 1) (by decide +kernel)) <|
  n_c (s_callVc (s_callV (pc := 20) (csX12_isIn) (by decide) okX12_isIn nok12 w_1659 w_46 w_1657 (by decide +kernel)) (gk107 hG)) <|
  n_c (s_if_ne (pc := 23) (off := 5) (by decide +kernel) (by decide +kernel)) <|
  n_c (s_iconst (pc := 26) (n := -1) (by decide +kernel) (by decide +kernel)) <|
  n_c (s_iret (pc := 27) rfl (by decide +kernel)) <|
  n_c (s_iconst (pc := 28) (n := 1) (by decide +kernel) (by decide +kernel)) <|
  n_c (s_istore_n (pc := 29) (k := 3) (by decide +kernel)) <|
  n_c (s_iconst (pc := 30) (n := 0) (by decide +kernel) (by decide +kernel)) <|
  n_c (s_istore (pc := 31) (by decide +kernel)) <|
  n_c (s_iload (pc := 33) (by decide +kernel)) <|
  n_c (s_iload_n (pc := 35) (k := 2) (by decide +kernel)) <|
  n_c (s_icmp_ge (pc := 36) (off := 21) (by decide +kernel) (by decide +kernel)) <|
  n_c (s_iload_n (pc := 39) (k := 3) (by decide +kernel)) <|
  n_c (s_iload_n (pc := 40) (k := 1) (by decide +kernel)) <|
  n_c (s_iload (pc := 41) (by decide +kernel)) <|
  n_c (s_isub (pc := 43) (by decide +kernel)) <|
  n_c (s_imul (pc := 44) (by decide +kernel)) <|
  n_c (s_iload (pc := 45) (by decide +kernel)) <|
  n_c (s_iconst (pc := 47) (n := 1) (by decide +kernel) (by decide +kernel)) <|
  n_c (s_iadd (pc := 48) (by decide +kernel)) <|
  n_c (s_idiv (pc := 49) (by decide +kernel)) <|
  n_c (s_istore_n (pc := 50) (k := 3) (by decide +kernel)) <|
  n_c (s_iinc (pc := 51) (n := 1) (by decide +kernel) (by decide +kernel)) <|
  n_c (s_goto (pc := 54) (off := -21) (by decide +kernel) (by decide +kernel)) <|
  n_c (s_iconst (pc := 57) (n := 1) (by decide +kernel) (by decide +kernel)) <|
  n_c (s_istore (pc := 58) (by decide +kernel)) <|
  n_c (s_iconst (pc := 60) (n := 1) (by decide +kernel) (by decide +kernel)) <|
  n_c (s_istore (pc := 61) (by decide +kernel)) <|
  n_c (s_iload (pc := 63) (by decide +kernel)) <|
  n_c (s_iload_n (pc := 65) (k := 1) (by decide +kernel)) <|
  n_c (s_iload_n (pc := 66) (k := 2) (by decide +kernel)) <|
  n_c (s_isub (pc := 67) (by decide +kernel)) <|
  n_c (s_icmp_gt (pc := 68) (off := 29) (by decide +kernel) (by decide +kernel)) <|
  n_c (s_iload (pc := 71) (by decide +kernel)) <|
  n_c (s_iload (pc := 73) (by decide +kernel)) <|
  n_c (s_imul (pc := 75) (by decide +kernel)) <|
  n_c (s_iload (pc := 76) (by decide +kernel)) <|
  n_c (s_iconst (pc := 78) (n := 2) (by decide +kernel) (by decide +kernel)) <|
  n_c (s_irem (pc := 79) (by decide +kernel)) <|
  n_c (s_if_ne (pc := 80) (off := 7) (by decide +kernel) (by decide +kernel)) <|
  n_c (s_iconst (pc := 83) (n := 1) (by decide +kernel) (by decide +kernel)) <|
  n_c (s_goto (pc := 84) (off := 4) (by decide +kernel) (by decide +kernel)) <|
  n_c (s_iconst (pc := 87) (n := -1) (by decide +kernel) (by decide +kernel)) <|
  n_c (s_iadd (pc := 88) (by decide +kernel)) <|
  n_c (s_istore (pc := 89) (by decide +kernel)) <|
  n_c (s_iinc (pc := 91) (n := 1) (by decide +kernel) (by decide +kernel)) <|
  n_c (s_goto (pc := 94) (off := -31) (by decide +kernel) (by decide +kernel)) <|
  n_c (s_iload_n (pc := 97) (k := 3) (by decide +kernel)) <|
  n_c (s_iload (pc := 98) (by decide +kernel)) <|
  n_c (s_imul (pc := 100) (by decide +kernel)) <|
  n_c (s_iret (pc := 101) rfl (by decide +kernel)) <|
  n_e
def fX12_hats_63 (N : Nat) : Nat → Int32 → Int32 → Int32 → Int32 → Int32 → nM → Option (Int32 × nM)
  | 0, _, _, _, _, _, _ => none
  | n + 1, x1, x2, x3, x4, x5, M =>
    if (x1 - x2) < x5 then
      some ((x3 * x4), M)
    else
      if (2 : Int32) = 0 then none else
      if ¬ (x5 - x5 / (2 : Int32) * (2 : Int32)) = 0 then
        let v1 : Int32 := ((x4 * x5) + (-1 : Int32))
        let v2 : Int32 := (x5 + (1 : Int32))
        fX12_hats_63 N n x1 x2 x3 v1 v2 M
      else
        let v3 : Int32 := ((x4 * x5) + (1 : Int32))
        let v4 : Int32 := (x5 + (1 : Int32))
        fX12_hats_63 N n x1 x2 x3 v3 v4 M
set_option maxRecDepth 200000 in
theorem bX12_hats_63 {l : Launch} {w : nW} (N : Nat) {G : nG} (hG : n_GOK G) : ∀ (n : Nat) (x1 : Int32) (x2 : Int32) (x3 : Int32) (x4 : Int32) (x5 : Int32) (M : nM) (r : Int32 × nM), fX12_hats_63 N n x1 x2 x3 x4 x5 M = some r → n_At l w 1 mX12_hats 63 [(1, .int x1), (2, .int x2), (3, .int x3), (4, .int x4), (5, .int x5)] [] (G, M) (dv_i r.1, (G, r.2)) := by
  intro n
  induction n with
  | zero => intro x1 x2 x3 x4 x5 M r h; cases (show (none : Option (Int32 × nM)) = some r from h)
  | succ n ih =>
    intro x1 x2 x3 x4 x5 M r h
    exact n_seg (fin := n_fin dv_i G) (K := [(63, fun lv st M => n_lI lv 1 (fun x1 => n_lI lv 2 (fun x2 => n_lI lv 3 (fun x3 => n_lI lv 4 (fun x4 => n_lI lv 5 (fun x5 => n_pE st (fX12_hats_63 N n x1 x2 x3 x4 x5 M)))))))]) 30 (iX12_hats N hG) (n_kc (fun lv st M r h => by
      obtain ⟨x1, e1, h1⟩ := n_lI_x h
      obtain ⟨x2, e2, h2⟩ := n_lI_x h1
      obtain ⟨x3, e3, h3⟩ := n_lI_x h2
      obtain ⟨x4, e4, h4⟩ := n_lI_x h3
      obtain ⟨x5, e5, h5⟩ := n_lI_x h4
      obtain ⟨rfl, h6⟩ := n_pE_x h5
      exact n_sub (n_qc e1 (n_qc e2 (n_qc e3 (n_qc e4 (n_qc e5 n_qe))))) (ih x1 x2 x3 x4 x5 M r h6)) n_ke) (by rfl) h
def fX12_hats_33 (N : Nat) : Nat → Int32 → Int32 → Int32 → Int32 → nM → Option (Int32 × nM)
  | 0, _, _, _, _, _ => none
  | n + 1, x1, x2, x3, x4, M =>
    if x2 ≤ x4 then
      fX12_hats_63 N N x1 x2 x3 (1 : Int32) (1 : Int32) M
    else
      if (x4 + (1 : Int32)) = 0 then none else
      let v1 : Int32 := ((x3 * (x1 - x4)) / (x4 + (1 : Int32)))
      let v2 : Int32 := (x4 + (1 : Int32))
      fX12_hats_33 N n x1 x2 v1 v2 M
set_option maxRecDepth 200000 in
theorem bX12_hats_33 {l : Launch} {w : nW} (N : Nat) {G : nG} (hG : n_GOK G) : ∀ (n : Nat) (x1 : Int32) (x2 : Int32) (x3 : Int32) (x4 : Int32) (M : nM) (r : Int32 × nM), fX12_hats_33 N n x1 x2 x3 x4 M = some r → n_At l w 1 mX12_hats 33 [(1, .int x1), (2, .int x2), (3, .int x3), (4, .int x4)] [] (G, M) (dv_i r.1, (G, r.2)) := by
  intro n
  induction n with
  | zero => intro x1 x2 x3 x4 M r h; cases (show (none : Option (Int32 × nM)) = some r from h)
  | succ n ih =>
    intro x1 x2 x3 x4 M r h
    exact n_seg (fin := n_fin dv_i G) (K := [(33, fun lv st M => n_lI lv 1 (fun x1 => n_lI lv 2 (fun x2 => n_lI lv 3 (fun x3 => n_lI lv 4 (fun x4 => n_pE st (fX12_hats_33 N n x1 x2 x3 x4 M)))))), (63, fun lv st M => n_lI lv 1 (fun x1 => n_lI lv 2 (fun x2 => n_lI lv 3 (fun x3 => n_lI lv 4 (fun x4 => n_lI lv 5 (fun x5 => n_pE st (fX12_hats_63 N N x1 x2 x3 x4 x5 M)))))))]) 22 (iX12_hats N hG) (n_kc (fun lv st M r h => by
      obtain ⟨x1, e1, h1⟩ := n_lI_x h
      obtain ⟨x2, e2, h2⟩ := n_lI_x h1
      obtain ⟨x3, e3, h3⟩ := n_lI_x h2
      obtain ⟨x4, e4, h4⟩ := n_lI_x h3
      obtain ⟨rfl, h5⟩ := n_pE_x h4
      exact n_sub (n_qc e1 (n_qc e2 (n_qc e3 (n_qc e4 n_qe)))) (ih x1 x2 x3 x4 M r h5)) (n_kc (fun lv st M r h => by
      obtain ⟨x1, e1, h1⟩ := n_lI_x h
      obtain ⟨x2, e2, h2⟩ := n_lI_x h1
      obtain ⟨x3, e3, h3⟩ := n_lI_x h2
      obtain ⟨x4, e4, h4⟩ := n_lI_x h3
      obtain ⟨x5, e5, h5⟩ := n_lI_x h4
      obtain ⟨rfl, h6⟩ := n_pE_x h5
      exact n_sub (n_qc e1 (n_qc e2 (n_qc e3 (n_qc e4 (n_qc e5 n_qe))))) (bX12_hats_63 N hG N x1 x2 x3 x4 x5 M r h6)) n_ke)) (by rfl) h
def fX12_hats (N : Nat) (x1 : Int32) (x2 : Int32) (M : nM) : Option (Int32 × nM) :=
  let M1 : nM := n_up M 107 0 (0 : Int32)
  (fX12_isIn x1 (1 : Int32) (12 : Int32) M1).bind fun p2 =>
  if p2.1 = 0 then
    some ((-1 : Int32), p2.2)
  else
    (fX12_isIn x2 (0 : Int32) x1 p2.2).bind fun p3 =>
    if ¬ p3.1 = 0 then
      fX12_hats_33 N N x1 x2 (1 : Int32) (0 : Int32) p3.2
    else
      some ((-1 : Int32), p3.2)
set_option maxRecDepth 200000 in
theorem bX12_hats_0 {l : Launch} {w : nW} (N : Nat) {G : nG} (hG : n_GOK G) (x1 : Int32) (x2 : Int32) (M : nM) (r : Int32 × nM) (h : fX12_hats N x1 x2 M = some r) : n_At l w 1 mX12_hats 0 [(0, .ref 107), (1, .int x1), (2, .int x2)] [] (G, M) (dv_i r.1, (G, r.2)) :=
  n_seg (fin := n_fin dv_i G) (K := [(33, fun lv st M => n_lI lv 1 (fun x1 => n_lI lv 2 (fun x2 => n_lI lv 3 (fun x3 => n_lI lv 4 (fun x4 => n_pE st (fX12_hats_33 N N x1 x2 x3 x4 M))))))]) 26 (iX12_hats N hG) (n_kc (fun lv st M r h => by
      obtain ⟨x1, e1, h1⟩ := n_lI_x h
      obtain ⟨x2, e2, h2⟩ := n_lI_x h1
      obtain ⟨x3, e3, h3⟩ := n_lI_x h2
      obtain ⟨x4, e4, h4⟩ := n_lI_x h3
      obtain ⟨rfl, h5⟩ := n_pE_x h4
      exact n_sub (n_qc e1 (n_qc e2 (n_qc e3 (n_qc e4 n_qe)))) (bX12_hats_33 N hG N x1 x2 x3 x4 M r h5)) n_ke) (by rfl) h
theorem eX12_hats {l : Launch} {w : nW} (N : Nat) {G : nG} (hG : n_GOK G) (z1 : Int32) (z2 : Int32) (M : nM) (r : Int32 × nM) (h : fX12_hats N z1 z2 M = some r) : n_Met l w 1 mX12_hats [.ref 107, .int z1, .int z2] (G, M) (dv_i r.1, (G, r.2)) :=
  n_entry (by decide +kernel) rfl (Nat.le_of_ble_eq_true rfl) (n_sub (lv := [(0, .ref 107), (1, .int z1), (2, .int z2)]) (n_qc rfl (n_qc rfl (n_qc rfl n_qe))) (bX12_hats_0 N hG z1 z2 M r h))
abbrev hX12_hats (N : Nat) : nF := fun T as M k => n_pC 107 as (fun as => n_pI as (fun z1 as => n_pI as (fun z2 as => n_pE as ((fX12_hats N z1 z2 M).bind fun p => k (dv_i p.1) p.2))))
theorem csX12_hats {l : Launch} {w : nW} (N : Nat) {G : nG} (hG : n_GOK G) : n_CS l w 1 mX12_hats G (hX12_hats N) := fun T as M k r h => by
  obtain ⟨t0, rfl, h1⟩ := n_pC_x h
  obtain ⟨z1, t1, rfl, h2⟩ := n_pI_x h1
  obtain ⟨z2, t2, rfl, h3⟩ := n_pI_x h2
  obtain ⟨rfl, hE⟩ := n_pE_x h3
  obtain ⟨p, hp, hk⟩ := Option.bind_eq_some_iff.mp hE
  exact ⟨_, _, eX12_hats N hG z1 z2 M p hp, hk⟩
/-! ===== SleightHouse.mirror(II)Z ===== -/
def mX11_mirror : nY := (RX11, yX11_mirror, cX11_mirror, 3, some .boolean)
theorem okX11_mirror : n_MOK mX11_mirror 2 := ⟨w_1305, w_137, ⟨by decide +kernel, by decide +kernel, by decide +kernel⟩, by decide⟩
abbrev aX11_mirror (G : nG) : List (Nat × nO (Int32 × nM)) := [(0, o_aload 0 1), (1, o_gRc 1 2 4), (4, o_gRc 2 28 7), (7, o_gRc 28 44 10), (10, o_iload 1 11), (11, o_iload 2 12), (12, o_push (.int (0 : Int32)) 13), (13, o_push (.int (2 : Int32)) 14), (14, o_call 5 (hX11_changeCell G) 17), (17, o_zret)]
set_option maxRecDepth 200000 in
theorem iX11_mirror {l : Launch} {w : nW} {G : nG} (hG : n_GOK G) : n_AllS l w 2 mX11_mirror G (n_fin dv_i G) (aX11_mirror G) :=
  n_c (s_aload_n (pc := 0) (k := 0) (by decide +kernel)) <|
  n_c (s_gRc (s_getR (pc := 1) (ci := 11) (k := 0) (idx := 10) nok11 (by decide) rfl (by decide +kernel) w_572) (gk1 hG) (gm1_0 hG)) <|
  n_c (s_gRc (s_getR (pc := 4) (ci := 1) (k := 7) (idx := 56) nok1 (by decide) rfl (by decide +kernel) w_421) (gk2 hG) (gm2_7 hG)) <|
  n_c (s_gRc (s_getR (pc := 7) (ci := 10) (k := 8) (idx := 375) nok10 (by decide) rfl (by decide +kernel) w_382) (gk28 hG) (gm28_8 hG)) <|
  n_c (s_iload_n (pc := 10) (k := 1) (by decide +kernel)) <|
  n_c (s_iload_n (pc := 11) (k := 2) (by decide +kernel)) <|
  n_c (s_iconst (pc := 12) (n := 0) (by decide +kernel) (by decide +kernel)) <|
  n_c (s_iconst (pc := 13) (n := 2) (by decide +kernel) (by decide +kernel)) <|
  n_c (s_callS (pc := 14) (csX11_changeCell) (by decide) okX11_changeCell w_648 w_647 (by decide +kernel)) <|
  n_c (s_zret (pc := 17) rfl (by decide +kernel)) <|
  n_e
def fX11_mirror (G : nG) (x1 : Int32) (x2 : Int32) (M : nM) : Option (Int32 × nM) :=
  (fX11_changeCell G 44 x1 x2 (0 : Int32) (2 : Int32) M).bind fun p1 =>
  n_chk (p1.1 == 0 || p1.1 == 1) (some (p1.1, p1.2))
set_option maxRecDepth 200000 in
theorem bX11_mirror_0 {l : Launch} {w : nW} {G : nG} (hG : n_GOK G) (x1 : Int32) (x2 : Int32) (M : nM) (r : Int32 × nM) (h : fX11_mirror G x1 x2 M = some r) : n_At l w 2 mX11_mirror 0 [(0, .ref 1), (1, .int x1), (2, .int x2)] [] (G, M) (dv_i r.1, (G, r.2)) :=
  n_seg (fin := n_fin dv_i G) (K := []) 13 (iX11_mirror hG) n_ke (by rfl) h
theorem eX11_mirror {l : Launch} {w : nW} {G : nG} (hG : n_GOK G) (z1 : Int32) (z2 : Int32) (M : nM) (r : Int32 × nM) (h : fX11_mirror G z1 z2 M = some r) : n_Met l w 2 mX11_mirror [.ref 1, .int z1, .int z2] (G, M) (dv_i r.1, (G, r.2)) :=
  n_entry (by decide +kernel) rfl (Nat.le_of_ble_eq_true rfl) (n_sub (lv := [(0, .ref 1), (1, .int z1), (2, .int z2)]) (n_qc rfl (n_qc rfl (n_qc rfl n_qe))) (bX11_mirror_0 hG z1 z2 M r h))
abbrev hX11_mirror (G : nG) : nF := fun T as M k => n_pC 1 as (fun as => n_pI as (fun z1 as => n_pI as (fun z2 as => n_pE as ((fX11_mirror G z1 z2 M).bind fun p => k (dv_i p.1) p.2))))
theorem csX11_mirror {l : Launch} {w : nW} {G : nG} (hG : n_GOK G) : n_CS l w 2 mX11_mirror G (hX11_mirror G) := fun T as M k r h => by
  obtain ⟨t0, rfl, h1⟩ := n_pC_x h
  obtain ⟨z1, t1, rfl, h2⟩ := n_pI_x h1
  obtain ⟨z2, t2, rfl, h3⟩ := n_pI_x h2
  obtain ⟨rfl, hE⟩ := n_pE_x h3
  obtain ⟨p, hp, hk⟩ := Option.bind_eq_some_iff.mp hE
  exact ⟨_, _, eX11_mirror hG z1 z2 M p hp, hk⟩
/-! ===== SleightHouseModel.mirror(II)Z ===== -/
def mX12_mirror : nY := (RX12, yX12_mirror, cX12_mirror, 3, some .boolean)
theorem okX12_mirror : n_MOK mX12_mirror 2 := ⟨w_2112, w_151, ⟨by decide +kernel, by decide +kernel, by decide +kernel⟩, by decide⟩
abbrev aX12_mirror : List (Nat × nO (Int32 × nM)) := [(0, o_aload 0 1), (1, o_push (.int (0 : Int32)) 2), (2, o_pIc 107 0 5), (5, o_aload 0 6), (6, o_iload 1 7), (7, o_push (.int (0 : Int32)) 8), (8, o_push (.int (35 : Int32)) 10), (10, o_callVc 107 3 (hX12_isIn) 13), (13, oi_eq 26 16), (16, o_aload 0 17), (17, o_iload 2 18), (18, o_push (.int (0 : Int32)) 19), (19, o_push (.int (2 : Int32)) 20), (20, o_callVc 107 3 (hX12_isIn) 23), (23, oi_ne 28 26), (26, o_push (.int (0 : Int32)) 27), (27, o_zret), (28, o_aload 0 29), (29, o_gRc 107 143 32), (32, o_iload 1 33), (33, o_iload 2 34), (34, o_iastc 143 36 35), (35, o_push (.int (1 : Int32)) 36), (36, o_zret)]
set_option maxRecDepth 200000 in
theorem iX12_mirror {l : Launch} {w : nW} {G : nG} (hG : n_GOK G) : n_AllS l w 1 mX12_mirror G (n_fin dv_i G) (aX12_mirror) :=
  n_c (s_aload_n (pc := 0) (k := 0) (by decide +kernel)) <|
  n_c (s_iconst (pc := 1) (n := 0) (by decide +kernel) (by decide +kernel)) <|
  n_c (s_pIc (s_putI (pc := 2) (ci := 12) (k := 0) (idx := 146) nok12 (by decide) rfl rfl (by decide +kernel) w_1407) (gk107 hG)) <|
  n_c (s_aload_n (pc := 5) (k := 0) (by decide +kernel)) <|
  n_c (s_iload_n (pc := 6) (k := 1) (by decide +kernel)) <|
  n_c (s_iconst (pc := 7) (n := 0) (by decide +kernel) (by decide +kernel)) <|
  n_c (s_bipush (pc := 8) (n := 35) (by decide +kernel) (by decide +kernel)) <|
  n_c (s_callVc (s_callV (pc := 10) (csX12_isIn) (by decide) okX12_isIn nok12 w_1659 w_46 w_1657 (by decide +kernel)) (gk107 hG)) <|
  n_c (s_if_eq (pc := 13) (off := 13) (by decide +kernel) (by decide +kernel)) <|
  n_c (s_aload_n (pc := 16) (k := 0) (by decide +kernel)) <|
  n_c (s_iload_n (pc := 17) (k := 2) (by decide +kernel)) <|
  n_c (s_iconst (pc := 18) (n := 0) (by decide +kernel) (by decide +kernel)) <|
  n_c (s_iconst (pc := 19) (n := 2) (by decide +kernel) (by decide +kernel)) <|
  n_c (s_callVc (s_callV (pc := 20) (csX12_isIn) (by decide) okX12_isIn nok12 w_1659 w_46 w_1657 (by decide +kernel)) (gk107 hG)) <|
  n_c (s_if_ne (pc := 23) (off := 5) (by decide +kernel) (by decide +kernel)) <|
  n_c (s_iconst (pc := 26) (n := 0) (by decide +kernel) (by decide +kernel)) <|
  n_c (s_zret (pc := 27) rfl (by decide +kernel)) <|
  n_c (s_aload_n (pc := 28) (k := 0) (by decide +kernel)) <|
  n_c (s_gRc (s_getR (pc := 29) (ci := 12) (k := 63) (idx := 119) nok12 (by decide) rfl (by decide +kernel) w_1470) (gk107 hG) (gm107_63 hG)) <|
  n_c (s_iload_n (pc := 32) (k := 1) (by decide +kernel)) <|
  n_c (s_iload_n (pc := 33) (k := 2) (by decide +kernel)) <|
  n_c (s_iastc (s_iastore (pc := 34) (by decide +kernel)) (gk143 hG) (gl143 hG)) <|
  n_c (s_iconst (pc := 35) (n := 1) (by decide +kernel) (by decide +kernel)) <|
  n_c (s_zret (pc := 36) rfl (by decide +kernel)) <|
  n_e
def fX12_mirror (x1 : Int32) (x2 : Int32) (M : nM) : Option (Int32 × nM) :=
  let M1 : nM := n_up M 107 0 (0 : Int32)
  (fX12_isIn x1 (0 : Int32) (35 : Int32) M1).bind fun p2 =>
  if p2.1 = 0 then
    some ((0 : Int32), p2.2)
  else
    (fX12_isIn x2 (0 : Int32) (2 : Int32) p2.2).bind fun p3 =>
    if ¬ p3.1 = 0 then
      n_chk (n_ib 36 x1) <|
      let M4 : nM := n_up p3.2 143 x1.toNatClampNeg x2
      some ((1 : Int32), M4)
    else
      some ((0 : Int32), p3.2)
set_option maxRecDepth 200000 in
theorem bX12_mirror_0 {l : Launch} {w : nW} {G : nG} (hG : n_GOK G) (x1 : Int32) (x2 : Int32) (M : nM) (r : Int32 × nM) (h : fX12_mirror x1 x2 M = some r) : n_At l w 1 mX12_mirror 0 [(0, .ref 107), (1, .int x1), (2, .int x2)] [] (G, M) (dv_i r.1, (G, r.2)) :=
  n_seg (fin := n_fin dv_i G) (K := []) 29 (iX12_mirror hG) n_ke (by rfl) h
theorem eX12_mirror {l : Launch} {w : nW} {G : nG} (hG : n_GOK G) (z1 : Int32) (z2 : Int32) (M : nM) (r : Int32 × nM) (h : fX12_mirror z1 z2 M = some r) : n_Met l w 1 mX12_mirror [.ref 107, .int z1, .int z2] (G, M) (dv_i r.1, (G, r.2)) :=
  n_entry (by decide +kernel) rfl (Nat.le_of_ble_eq_true rfl) (n_sub (lv := [(0, .ref 107), (1, .int z1), (2, .int z2)]) (n_qc rfl (n_qc rfl (n_qc rfl n_qe))) (bX12_mirror_0 hG z1 z2 M r h))
abbrev hX12_mirror : nF := fun T as M k => n_pC 107 as (fun as => n_pI as (fun z1 as => n_pI as (fun z2 as => n_pE as ((fX12_mirror z1 z2 M).bind fun p => k (dv_i p.1) p.2))))
theorem csX12_mirror {l : Launch} {w : nW} {G : nG} (hG : n_GOK G) : n_CS l w 1 mX12_mirror G (hX12_mirror) := fun T as M k r h => by
  obtain ⟨t0, rfl, h1⟩ := n_pC_x h
  obtain ⟨z1, t1, rfl, h2⟩ := n_pI_x h1
  obtain ⟨z2, t2, rfl, h3⟩ := n_pI_x h2
  obtain ⟨rfl, hE⟩ := n_pE_x h3
  obtain ⟨p, hp, hk⟩ := Option.bind_eq_some_iff.mp hE
  exact ⟨_, _, eX12_mirror hG z1 z2 M p hp, hk⟩
/-! ===== SleightHouse$Thought.inGrid(I)Z ===== -/
def mX9_inGrid : nY := (RX9, yX9_inGrid, cX9_inGrid, 1, some .boolean)
theorem okX9_inGrid : n_MOK mX9_inGrid 1 := ⟨w_1316, w_149, ⟨by decide +kernel, by decide +kernel, by decide +kernel⟩, by decide⟩
abbrev aX9_inGrid : List (Nat × nO (Int32 × nM)) := [(0, o_iload 0 1), (1, oi_lt 14 4), (4, o_iload 0 5), (5, o_push (.int (6 : Int32)) 7), (7, oc_ge 14 10), (10, o_push (.int (1 : Int32)) 11), (11, o_goto 15), (14, o_push (.int (0 : Int32)) 15), (15, o_zret)]
set_option maxRecDepth 200000 in
theorem iX9_inGrid {l : Launch} {w : nW} {G : nG} : n_AllS l w 0 mX9_inGrid G (n_fin dv_i G) (aX9_inGrid) :=
  n_c (s_iload_n (pc := 0) (k := 0) (by decide +kernel)) <|
  n_c (s_if_lt (pc := 1) (off := 13) (by decide +kernel) (by decide +kernel)) <|
  n_c (s_iload_n (pc := 4) (k := 0) (by decide +kernel)) <|
  n_c (s_bipush (pc := 5) (n := 6) (by decide +kernel) (by decide +kernel)) <|
  n_c (s_icmp_ge (pc := 7) (off := 7) (by decide +kernel) (by decide +kernel)) <|
  n_c (s_iconst (pc := 10) (n := 1) (by decide +kernel) (by decide +kernel)) <|
  n_c (s_goto (pc := 11) (off := 4) (by decide +kernel) (by decide +kernel)) <|
  n_c (s_iconst (pc := 14) (n := 0) (by decide +kernel) (by decide +kernel)) <|
  n_c (s_zret (pc := 15) rfl (by decide +kernel)) <|
  n_e
def fX9_inGrid (x0 : Int32) (M : nM) : Option (Int32 × nM) :=
  if x0 < 0 then
    some ((0 : Int32), M)
  else
    if (6 : Int32) ≤ x0 then
      some ((0 : Int32), M)
    else
      some ((1 : Int32), M)
set_option maxRecDepth 200000 in
theorem bX9_inGrid_0 {l : Launch} {w : nW} {G : nG} (x0 : Int32) (M : nM) (r : Int32 × nM) (h : fX9_inGrid x0 M = some r) : n_At l w 0 mX9_inGrid 0 [(0, .int x0)] [] (G, M) (dv_i r.1, (G, r.2)) :=
  n_seg (fin := n_fin dv_i G) (K := []) 15 (iX9_inGrid) n_ke (by rfl) h
theorem eX9_inGrid {l : Launch} {w : nW} {G : nG} (z0 : Int32) (M : nM) (r : Int32 × nM) (h : fX9_inGrid z0 M = some r) : n_Met l w 0 mX9_inGrid [.int z0] (G, M) (dv_i r.1, (G, r.2)) :=
  n_entry (by decide +kernel) rfl (Nat.le_of_ble_eq_true rfl) (n_sub (lv := [(0, .int z0)]) (n_qc rfl n_qe) (bX9_inGrid_0 z0 M r h))
abbrev hX9_inGrid : nF := fun T as M k => n_pI as (fun z0 as => n_pE as ((fX9_inGrid z0 M).bind fun p => k (dv_i p.1) p.2))
theorem csX9_inGrid {l : Launch} {w : nW} {G : nG} : n_CS l w 0 mX9_inGrid G (hX9_inGrid) := fun T as M k r h => by
  obtain ⟨z0, t0, rfl, h1⟩ := n_pI_x h
  obtain ⟨rfl, hE⟩ := n_pE_x h1
  obtain ⟨p, hp, hk⟩ := Option.bind_eq_some_iff.mp hE
  exact ⟨_, _, eX9_inGrid z0 M p hp, hk⟩
/-! ===== SleightHouse$Thought.glanced(IZ)I ===== -/
def mX9_glanced : nY := (RX9, yX9_glanced, cX9_glanced, 11, some .int)
theorem okX9_glanced : n_MOK mX9_glanced 2 := ⟨w_1313, w_149, ⟨by decide +kernel, by decide +kernel, by decide +kernel⟩, by decide⟩
abbrev aX9_glanced (N : Nat) : List (Nat × nO (Int32 × nM)) := [(0, o_iload 1 1), (1, o_push (.int (6 : Int32)) 3), (3, o_idiv 4), (4, o_istore 11 3 5), (5, o_iload 1 6), (6, o_push (.int (6 : Int32)) 8), (8, o_irem 9), (9, o_istore 11 4 11), (11, o_iload 3 12), (12, o_push (.int (2 : Int32)) 13), (13, o_iadd 14), (14, o_push (.int (4 : Int32)) 15), (15, o_irem 16), (16, o_istore 11 5 18), (18, o_iload 3 19), (19, oi_ne 26 22), (22, o_push (.int (0 : Int32)) 23), (23, o_goto 37), (26, o_iload 3 27), (27, o_push (.int (2 : Int32)) 28), (28, oc_ne 35 31), (31, o_push (.int (5 : Int32)) 32), (32, o_goto 37), (35, o_iload 4 37), (37, o_istore 11 6 39), (39, o_iload 3 40), (40, o_push (.int (3 : Int32)) 41), (41, oc_ne 48 44), (44, o_push (.int (0 : Int32)) 45), (45, o_goto 59), (48, o_iload 3 49), (49, o_push (.int (1 : Int32)) 50), (50, oc_ne 57 53), (53, o_push (.int (5 : Int32)) 54), (54, o_goto 59), (57, o_iload 4 59), (59, o_istore 11 7 61), (61, o_push (.int (0 : Int32)) 62), (62, o_istore 11 8 64), (64, o_push (.int (0 : Int32)) 65), (65, o_istore 11 9 67), (67, o_iload 9 69), (69, o_push (.int (144 : Int32)) 72), (72, oc_ge 193 75), (75, o_iload 6 77), (77, o_call 1 (hX9_inGrid) 80), (80, oi_eq 193 83), (83, o_iload 7 85), (85, o_call 1 (hX9_inGrid) 88), (88, oi_eq 193 91), (91, o_aload 0 92), (92, o_gRc 98 28 95), (95, o_gRc 28 44 98), (98, o_iload 6 100), (100, o_push (.int (6 : Int32)) 102), (102, o_imul 103), (103, o_iload 7 105), (105, o_iadd 106), (106, o_aldc 44 36 107), (107, o_istore 11 10 109), (109, o_iload 10 111), (111, oi_eq 136 114), (114, o_inc 11 8 (1 : Int32) 117), (117, o_iload 10 119), (119, o_push (.int (1 : Int32)) 120), (120, oc_ne 130 123), (123, o_iload 5 125), (125, o_push (.int (1 : Int32)) 126), (126, o_ixor 127), (127, o_goto 134), (130, o_push (.int (3 : Int32)) 131), (131, o_iload 5 133), (133, o_isub 134), (134, o_istore 11 5 136), (136, o_iload 6 138), (138, o_iload 5 140), (140, oi_ne 147 143), (143, o_push (.int (-1 : Int32)) 144), (144, o_goto 158), (147, o_iload 5 149), (149, o_push (.int (2 : Int32)) 150), (150, oc_ne 157 153), (153, o_push (.int (1 : Int32)) 154), (154, o_goto 158), (157, o_push (.int (0 : Int32)) 158), (158, o_iadd 159), (159, o_istore 11 6 161), (161, o_iload 7 163), (163, o_iload 5 165), (165, o_push (.int (3 : Int32)) 166), (166, oc_ne 173 169), (169, o_push (.int (-1 : Int32)) 170), (170, o_goto 184), (173, o_iload 5 175), (175, o_push (.int (1 : Int32)) 176), (176, oc_ne 183 179), (179, o_push (.int (1 : Int32)) 180), (180, o_goto 184), (183, o_push (.int (0 : Int32)) 184), (184, o_iadd 185), (185, o_istore 11 7 187), (187, o_inc 11 9 (1 : Int32) 190), (190, o_goto 67), (193, o_iload 5 195), (195, oi_eq 204 198), (198, o_iload 5 200), (200, o_push (.int (2 : Int32)) 201), (201, oc_ne 208 204), (204, o_push (.int (1 : Int32)) 205), (205, o_goto 209), (208, o_push (.int (0 : Int32)) 209), (209, o_istore 11 9 211), (211, o_iload 2 212), (212, oi_eq 220 215), (215, o_iload 8 217), (217, o_goto 238), (220, o_iload 5 222), (222, o_push (.int (6 : Int32)) 224), (224, o_imul 225), (225, o_iload 9 227), (227, oi_eq 235 230), (230, o_iload 7 232), (232, o_goto 237), (235, o_iload 6 237), (237, o_iadd 238), (238, o_iret)]
set_option maxRecDepth 200000 in
theorem iX9_glanced {l : Launch} {w : nW} (N : Nat) {G : nG} (hG : n_GOK G) : n_AllS l w 1 mX9_glanced G (n_fin dv_i G) (aX9_glanced N) :=
  n_c (s_iload_n (pc := 0) (k := 1) (by decide +kernel)) <|
  n_c (s_bipush (pc := 1) (n := 6) (by decide +kernel) (by decide +kernel)) <|
  n_c (s_idiv (pc := 3) (by decide +kernel)) <|
  n_c (s_istore_n (pc := 4) (k := 3) (by decide +kernel)) <|
  n_c (s_iload_n (pc := 5) (k := 1) (by decide +kernel)) <|
  n_c (s_bipush (pc := 6) (n := 6) (by decide +kernel) (by decide +kernel)) <|
  n_c (s_irem (pc := 8) (by decide +kernel)) <|
  n_c (s_istore (pc := 9) (by decide +kernel)) <|
  n_c (s_iload_n (pc := 11) (k := 3) (by decide +kernel)) <|
  n_c (s_iconst (pc := 12) (n := 2) (by decide +kernel) (by decide +kernel)) <|
  n_c (s_iadd (pc := 13) (by decide +kernel)) <|
  n_c (s_iconst (pc := 14) (n := 4) (by decide +kernel) (by decide +kernel)) <|
  n_c (s_irem (pc := 15) (by decide +kernel)) <|
  n_c (s_istore (pc := 16) (by decide +kernel)) <|
  n_c (s_iload_n (pc := 18) (k := 3) (by decide +kernel)) <|
  n_c (s_if_ne (pc := 19) (off := 7) (by decide +kernel) (by decide +kernel)) <|
  n_c (s_iconst (pc := 22) (n := 0) (by decide +kernel) (by decide +kernel)) <|
  n_c (s_goto (pc := 23) (off := 14) (by decide +kernel) (by decide +kernel)) <|
  n_c (s_iload_n (pc := 26) (k := 3) (by decide +kernel)) <|
  n_c (s_iconst (pc := 27) (n := 2) (by decide +kernel) (by decide +kernel)) <|
  n_c (s_icmp_ne (pc := 28) (off := 7) (by decide +kernel) (by decide +kernel)) <|
  n_c (s_iconst (pc := 31) (n := 5) (by decide +kernel) (by decide +kernel)) <|
  n_c (s_goto (pc := 32) (off := 5) (by decide +kernel) (by decide +kernel)) <|
  n_c (s_iload (pc := 35) (by decide +kernel)) <|
  n_c (s_istore (pc := 37) (by decide +kernel)) <|
  n_c (s_iload_n (pc := 39) (k := 3) (by decide +kernel)) <|
  n_c (s_iconst (pc := 40) (n := 3) (by decide +kernel) (by decide +kernel)) <|
  n_c (s_icmp_ne (pc := 41) (off := 7) (by decide +kernel) (by decide +kernel)) <|
  n_c (s_iconst (pc := 44) (n := 0) (by decide +kernel) (by decide +kernel)) <|
  n_c (s_goto (pc := 45) (off := 14) (by decide +kernel) (by decide +kernel)) <|
  n_c (s_iload_n (pc := 48) (k := 3) (by decide +kernel)) <|
  n_c (s_iconst (pc := 49) (n := 1) (by decide +kernel) (by decide +kernel)) <|
  n_c (s_icmp_ne (pc := 50) (off := 7) (by decide +kernel) (by decide +kernel)) <|
  n_c (s_iconst (pc := 53) (n := 5) (by decide +kernel) (by decide +kernel)) <|
  n_c (s_goto (pc := 54) (off := 5) (by decide +kernel) (by decide +kernel)) <|
  n_c (s_iload (pc := 57) (by decide +kernel)) <|
  n_c (s_istore (pc := 59) (by decide +kernel)) <|
  n_c (s_iconst (pc := 61) (n := 0) (by decide +kernel) (by decide +kernel)) <|
  n_c (s_istore (pc := 62) (by decide +kernel)) <|
  n_c (s_iconst (pc := 64) (n := 0) (by decide +kernel) (by decide +kernel)) <|
  n_c (s_istore (pc := 65) (by decide +kernel)) <|
  n_c (s_iload (pc := 67) (by decide +kernel)) <|
  n_c (s_sipush (pc := 69) (n := 144) (by decide +kernel) (by decide +kernel)) <|
  n_c (s_icmp_ge (pc := 72) (off := 121) (by decide +kernel) (by decide +kernel)) <|
  n_c (s_iload (pc := 75) (by decide +kernel)) <|
  n_c (s_callS (pc := 77) (csX9_inGrid) (by decide) okX9_inGrid w_1315 w_1314 (by decide +kernel)) <|
  n_c (s_if_eq (pc := 80) (off := 113) (by decide +kernel) (by decide +kernel)) <|
  n_c (s_iload (pc := 83) (by decide +kernel)) <|
  n_c (s_callS (pc := 85) (csX9_inGrid) (by decide) okX9_inGrid w_1315 w_1314 (by decide +kernel)) <|
  n_c (s_if_eq (pc := 88) (off := 105) (by decide +kernel) (by decide +kernel)) <|
  n_c (s_aload_n (pc := 91) (k := 0) (by decide +kernel)) <|
  n_c (s_gRc (s_getR (pc := 92) (ci := 9) (k := 0) (idx := 18) nok9 (by decide) rfl (by decide +kernel) w_537) (gk98 hG) (gm98_0 hG)) <|
  n_c (s_gRc (s_getR (pc := 95) (ci := 10) (k := 8) (idx := 86) nok10 (by decide) rfl (by decide +kernel) w_381) (gk28 hG) (gm28_8 hG)) <|
  n_c (s_iload (pc := 98) (by decide +kernel)) <|
  n_c (s_bipush (pc := 100) (n := 6) (by decide +kernel) (by decide +kernel)) <|
  n_c (s_imul (pc := 102) (by decide +kernel)) <|
  n_c (s_iload (pc := 103) (by decide +kernel)) <|
  n_c (s_iadd (pc := 105) (by decide +kernel)) <|
  n_c (s_aldc (s_iaload (pc := 106) (by decide +kernel)) (gk44 hG) (gl44 hG)) <|
  n_c (s_istore (pc := 107) (by decide +kernel)) <|
  n_c (s_iload (pc := 109) (by decide +kernel)) <|
  n_c (s_if_eq (pc := 111) (off := 25) (by decide +kernel) (by decide +kernel)) <|
  n_c (s_iinc (pc := 114) (n := 1) (by decide +kernel) (by decide +kernel)) <|
  n_c (s_iload (pc := 117) (by decide +kernel)) <|
  n_c (s_iconst (pc := 119) (n := 1) (by decide +kernel) (by decide +kernel)) <|
  n_c (s_icmp_ne (pc := 120) (off := 10) (by decide +kernel) (by decide +kernel)) <|
  n_c (s_iload (pc := 123) (by decide +kernel)) <|
  n_c (s_iconst (pc := 125) (n := 1) (by decide +kernel) (by decide +kernel)) <|
  n_c (s_ixor (pc := 126) (by decide +kernel)) <|
  n_c (s_goto (pc := 127) (off := 7) (by decide +kernel) (by decide +kernel)) <|
  n_c (s_iconst (pc := 130) (n := 3) (by decide +kernel) (by decide +kernel)) <|
  n_c (s_iload (pc := 131) (by decide +kernel)) <|
  n_c (s_isub (pc := 133) (by decide +kernel)) <|
  n_c (s_istore (pc := 134) (by decide +kernel)) <|
  n_c (s_iload (pc := 136) (by decide +kernel)) <|
  n_c (s_iload (pc := 138) (by decide +kernel)) <|
  n_c (s_if_ne (pc := 140) (off := 7) (by decide +kernel) (by decide +kernel)) <|
  n_c (s_iconst (pc := 143) (n := -1) (by decide +kernel) (by decide +kernel)) <|
  n_c (s_goto (pc := 144) (off := 14) (by decide +kernel) (by decide +kernel)) <|
  n_c (s_iload (pc := 147) (by decide +kernel)) <|
  n_c (s_iconst (pc := 149) (n := 2) (by decide +kernel) (by decide +kernel)) <|
  n_c (s_icmp_ne (pc := 150) (off := 7) (by decide +kernel) (by decide +kernel)) <|
  n_c (s_iconst (pc := 153) (n := 1) (by decide +kernel) (by decide +kernel)) <|
  n_c (s_goto (pc := 154) (off := 4) (by decide +kernel) (by decide +kernel)) <|
  n_c (s_iconst (pc := 157) (n := 0) (by decide +kernel) (by decide +kernel)) <|
  n_c (s_iadd (pc := 158) (by decide +kernel)) <|
  n_c (s_istore (pc := 159) (by decide +kernel)) <|
  n_c (s_iload (pc := 161) (by decide +kernel)) <|
  n_c (s_iload (pc := 163) (by decide +kernel)) <|
  n_c (s_iconst (pc := 165) (n := 3) (by decide +kernel) (by decide +kernel)) <|
  n_c (s_icmp_ne (pc := 166) (off := 7) (by decide +kernel) (by decide +kernel)) <|
  n_c (s_iconst (pc := 169) (n := -1) (by decide +kernel) (by decide +kernel)) <|
  n_c (s_goto (pc := 170) (off := 14) (by decide +kernel) (by decide +kernel)) <|
  n_c (s_iload (pc := 173) (by decide +kernel)) <|
  n_c (s_iconst (pc := 175) (n := 1) (by decide +kernel) (by decide +kernel)) <|
  n_c (s_icmp_ne (pc := 176) (off := 7) (by decide +kernel) (by decide +kernel)) <|
  n_c (s_iconst (pc := 179) (n := 1) (by decide +kernel) (by decide +kernel)) <|
  n_c (s_goto (pc := 180) (off := 4) (by decide +kernel) (by decide +kernel)) <|
  n_c (s_iconst (pc := 183) (n := 0) (by decide +kernel) (by decide +kernel)) <|
  n_c (s_iadd (pc := 184) (by decide +kernel)) <|
  n_c (s_istore (pc := 185) (by decide +kernel)) <|
  n_c (s_iinc (pc := 187) (n := 1) (by decide +kernel) (by decide +kernel)) <|
  n_c (s_goto (pc := 190) (off := -123) (by decide +kernel) (by decide +kernel)) <|
  n_c (s_iload (pc := 193) (by decide +kernel)) <|
  n_c (s_if_eq (pc := 195) (off := 9) (by decide +kernel) (by decide +kernel)) <|
  n_c (s_iload (pc := 198) (by decide +kernel)) <|
  n_c (s_iconst (pc := 200) (n := 2) (by decide +kernel) (by decide +kernel)) <|
  n_c (s_icmp_ne (pc := 201) (off := 7) (by decide +kernel) (by decide +kernel)) <|
  n_c (s_iconst (pc := 204) (n := 1) (by decide +kernel) (by decide +kernel)) <|
  n_c (s_goto (pc := 205) (off := 4) (by decide +kernel) (by decide +kernel)) <|
  n_c (s_iconst (pc := 208) (n := 0) (by decide +kernel) (by decide +kernel)) <|
  n_c (s_istore (pc := 209) (by decide +kernel)) <|
  n_c (s_iload_n (pc := 211) (k := 2) (by decide +kernel)) <|
  n_c (s_if_eq (pc := 212) (off := 8) (by decide +kernel) (by decide +kernel)) <|
  n_c (s_iload (pc := 215) (by decide +kernel)) <|
  n_c (s_goto (pc := 217) (off := 21) (by decide +kernel) (by decide +kernel)) <|
  n_c (s_iload (pc := 220) (by decide +kernel)) <|
  n_c (s_bipush (pc := 222) (n := 6) (by decide +kernel) (by decide +kernel)) <|
  n_c (s_imul (pc := 224) (by decide +kernel)) <|
  n_c (s_iload (pc := 225) (by decide +kernel)) <|
  n_c (s_if_eq (pc := 227) (off := 8) (by decide +kernel) (by decide +kernel)) <|
  n_c (s_iload (pc := 230) (by decide +kernel)) <|
  n_c (s_goto (pc := 232) (off := 5) (by decide +kernel) (by decide +kernel)) <|
  n_c (s_iload (pc := 235) (by decide +kernel)) <|
  n_c (s_iadd (pc := 237) (by decide +kernel)) <|
  n_c (s_iret (pc := 238) rfl (by decide +kernel)) <|
  n_e
def fX9_glanced_158 (N : Nat) (k67 : Int32 → Int32 → Int32 → Int32 → Int32 → Int32 → nM → Option (Int32 × nM)) (x2 : Int32) (x5 : Int32) (x7 : Int32) (x8 : Int32) (x9 : Int32) (s0 : Int32) (s1 : Int32) (M : nM) : Option (Int32 × nM) :=
  let v1 : Int32 := (s1 + s0)
  if ¬ x5 = (3 : Int32) then
    if ¬ x5 = (1 : Int32) then
      let v2 : Int32 := (x7 + (0 : Int32))
      let v3 : Int32 := (x9 + (1 : Int32))
      k67 x2 x5 v1 v2 x8 v3 M
    else
      let v4 : Int32 := (x7 + (1 : Int32))
      let v5 : Int32 := (x9 + (1 : Int32))
      k67 x2 x5 v1 v4 x8 v5 M
  else
    let v6 : Int32 := (x7 + (-1 : Int32))
    let v7 : Int32 := (x9 + (1 : Int32))
    k67 x2 x5 v1 v6 x8 v7 M
set_option maxRecDepth 200000 in
theorem bX9_glanced_158 {l : Launch} {w : nW} (N : Nat) {G : nG} (hG : n_GOK G) (k67 : Int32 → Int32 → Int32 → Int32 → Int32 → Int32 → nM → Option (Int32 × nM)) (hk67 : ∀ (x2 : Int32) (x5 : Int32) (x6 : Int32) (x7 : Int32) (x8 : Int32) (x9 : Int32) (M : nM) (r : Int32 × nM), k67 x2 x5 x6 x7 x8 x9 M = some r → n_At l w 1 mX9_glanced 67 [(0, .ref 98), (2, .int x2), (5, .int x5), (6, .int x6), (7, .int x7), (8, .int x8), (9, .int x9)] [] (G, M) (dv_i r.1, (G, r.2))) (x2 : Int32) (x5 : Int32) (x7 : Int32) (x8 : Int32) (x9 : Int32) (s0 : Int32) (s1 : Int32) (M : nM) (r : Int32 × nM) (h : fX9_glanced_158 N k67 x2 x5 x7 x8 x9 s0 s1 M = some r) : n_At l w 1 mX9_glanced 158 [(0, .ref 98), (2, .int x2), (5, .int x5), (7, .int x7), (8, .int x8), (9, .int x9)] [.int s0, .int s1] (G, M) (dv_i r.1, (G, r.2)) :=
  n_seg (fin := n_fin dv_i G) (K := [(67, fun lv st M => n_lC 98 lv 0 (n_lI lv 2 (fun x2 => n_lI lv 5 (fun x5 => n_lI lv 6 (fun x6 => n_lI lv 7 (fun x7 => n_lI lv 8 (fun x8 => n_lI lv 9 (fun x9 => n_pE st (k67 x2 x5 x6 x7 x8 x9 M)))))))))]) 29 (iX9_glanced N hG) (n_kc (fun lv st M r h => by
      obtain ⟨e0, h1⟩ := n_lC_x h
      obtain ⟨x2, e2, h2⟩ := n_lI_x h1
      obtain ⟨x5, e5, h3⟩ := n_lI_x h2
      obtain ⟨x6, e6, h4⟩ := n_lI_x h3
      obtain ⟨x7, e7, h5⟩ := n_lI_x h4
      obtain ⟨x8, e8, h6⟩ := n_lI_x h5
      obtain ⟨x9, e9, h7⟩ := n_lI_x h6
      obtain ⟨rfl, h8⟩ := n_pE_x h7
      exact n_sub (n_qc e0 (n_qc e2 (n_qc e5 (n_qc e6 (n_qc e7 (n_qc e8 (n_qc e9 n_qe))))))) (hk67 x2 x5 x6 x7 x8 x9 M r h8)) n_ke) (by rfl) h
def fX9_glanced_136 (N : Nat) (k67 : Int32 → Int32 → Int32 → Int32 → Int32 → Int32 → nM → Option (Int32 × nM)) (x2 : Int32) (x5 : Int32) (x6 : Int32) (x7 : Int32) (x8 : Int32) (x9 : Int32) (M : nM) : Option (Int32 × nM) :=
  if ¬ x5 = 0 then
    if ¬ x5 = (2 : Int32) then
      fX9_glanced_158 N k67 x2 x5 x7 x8 x9 (0 : Int32) x6 M
    else
      fX9_glanced_158 N k67 x2 x5 x7 x8 x9 (1 : Int32) x6 M
  else
    fX9_glanced_158 N k67 x2 x5 x7 x8 x9 (-1 : Int32) x6 M
set_option maxRecDepth 200000 in
theorem bX9_glanced_136 {l : Launch} {w : nW} (N : Nat) {G : nG} (hG : n_GOK G) (k67 : Int32 → Int32 → Int32 → Int32 → Int32 → Int32 → nM → Option (Int32 × nM)) (hk67 : ∀ (x2 : Int32) (x5 : Int32) (x6 : Int32) (x7 : Int32) (x8 : Int32) (x9 : Int32) (M : nM) (r : Int32 × nM), k67 x2 x5 x6 x7 x8 x9 M = some r → n_At l w 1 mX9_glanced 67 [(0, .ref 98), (2, .int x2), (5, .int x5), (6, .int x6), (7, .int x7), (8, .int x8), (9, .int x9)] [] (G, M) (dv_i r.1, (G, r.2))) (x2 : Int32) (x5 : Int32) (x6 : Int32) (x7 : Int32) (x8 : Int32) (x9 : Int32) (M : nM) (r : Int32 × nM) (h : fX9_glanced_136 N k67 x2 x5 x6 x7 x8 x9 M = some r) : n_At l w 1 mX9_glanced 136 [(0, .ref 98), (2, .int x2), (5, .int x5), (6, .int x6), (7, .int x7), (8, .int x8), (9, .int x9)] [] (G, M) (dv_i r.1, (G, r.2)) :=
  n_seg (fin := n_fin dv_i G) (K := [(158, fun lv st M => n_lC 98 lv 0 (n_lI lv 2 (fun x2 => n_lI lv 5 (fun x5 => n_lI lv 7 (fun x7 => n_lI lv 8 (fun x8 => n_lI lv 9 (fun x9 => n_pI st (fun s0 st => n_pI st (fun s1 st => n_pE st (fX9_glanced_158 N k67 x2 x5 x7 x8 x9 s0 s1 M))))))))))]) 14 (iX9_glanced N hG) (n_kc (fun lv st M r h => by
      obtain ⟨e0, h1⟩ := n_lC_x h
      obtain ⟨x2, e2, h2⟩ := n_lI_x h1
      obtain ⟨x5, e5, h3⟩ := n_lI_x h2
      obtain ⟨x7, e7, h4⟩ := n_lI_x h3
      obtain ⟨x8, e8, h5⟩ := n_lI_x h4
      obtain ⟨x9, e9, h6⟩ := n_lI_x h5
      obtain ⟨s0, t0, rfl, h7⟩ := n_pI_x h6
      obtain ⟨s1, t1, rfl, h8⟩ := n_pI_x h7
      obtain ⟨rfl, h9⟩ := n_pE_x h8
      exact n_sub (n_qc e0 (n_qc e2 (n_qc e5 (n_qc e7 (n_qc e8 (n_qc e9 n_qe)))))) (bX9_glanced_158 N hG k67 hk67 x2 x5 x7 x8 x9 s0 s1 M r h9)) n_ke) (by rfl) h
def fX9_glanced_134 (N : Nat) (k67 : Int32 → Int32 → Int32 → Int32 → Int32 → Int32 → nM → Option (Int32 × nM)) (x2 : Int32) (x6 : Int32) (x7 : Int32) (x8 : Int32) (x9 : Int32) (s0 : Int32) (M : nM) : Option (Int32 × nM) :=
  fX9_glanced_136 N k67 x2 s0 x6 x7 x8 x9 M
set_option maxRecDepth 200000 in
theorem bX9_glanced_134 {l : Launch} {w : nW} (N : Nat) {G : nG} (hG : n_GOK G) (k67 : Int32 → Int32 → Int32 → Int32 → Int32 → Int32 → nM → Option (Int32 × nM)) (hk67 : ∀ (x2 : Int32) (x5 : Int32) (x6 : Int32) (x7 : Int32) (x8 : Int32) (x9 : Int32) (M : nM) (r : Int32 × nM), k67 x2 x5 x6 x7 x8 x9 M = some r → n_At l w 1 mX9_glanced 67 [(0, .ref 98), (2, .int x2), (5, .int x5), (6, .int x6), (7, .int x7), (8, .int x8), (9, .int x9)] [] (G, M) (dv_i r.1, (G, r.2))) (x2 : Int32) (x6 : Int32) (x7 : Int32) (x8 : Int32) (x9 : Int32) (s0 : Int32) (M : nM) (r : Int32 × nM) (h : fX9_glanced_134 N k67 x2 x6 x7 x8 x9 s0 M = some r) : n_At l w 1 mX9_glanced 134 [(0, .ref 98), (2, .int x2), (6, .int x6), (7, .int x7), (8, .int x8), (9, .int x9)] [.int s0] (G, M) (dv_i r.1, (G, r.2)) :=
  n_seg (fin := n_fin dv_i G) (K := [(136, fun lv st M => n_lC 98 lv 0 (n_lI lv 2 (fun x2 => n_lI lv 5 (fun x5 => n_lI lv 6 (fun x6 => n_lI lv 7 (fun x7 => n_lI lv 8 (fun x8 => n_lI lv 9 (fun x9 => n_pE st (fX9_glanced_136 N k67 x2 x5 x6 x7 x8 x9 M)))))))))]) 4 (iX9_glanced N hG) (n_kc (fun lv st M r h => by
      obtain ⟨e0, h1⟩ := n_lC_x h
      obtain ⟨x2, e2, h2⟩ := n_lI_x h1
      obtain ⟨x5, e5, h3⟩ := n_lI_x h2
      obtain ⟨x6, e6, h4⟩ := n_lI_x h3
      obtain ⟨x7, e7, h5⟩ := n_lI_x h4
      obtain ⟨x8, e8, h6⟩ := n_lI_x h5
      obtain ⟨x9, e9, h7⟩ := n_lI_x h6
      obtain ⟨rfl, h8⟩ := n_pE_x h7
      exact n_sub (n_qc e0 (n_qc e2 (n_qc e5 (n_qc e6 (n_qc e7 (n_qc e8 (n_qc e9 n_qe))))))) (bX9_glanced_136 N hG k67 hk67 x2 x5 x6 x7 x8 x9 M r h8)) n_ke) (by rfl) h
def fX9_glanced_209 (N : Nat) (x2 : Int32) (x5 : Int32) (x6 : Int32) (x7 : Int32) (x8 : Int32) (s0 : Int32) (M : nM) : Option (Int32 × nM) :=
  if x2 = 0 then
    if s0 = 0 then
      some (((x5 * (6 : Int32)) + x6), M)
    else
      some (((x5 * (6 : Int32)) + x7), M)
  else
    some (x8, M)
set_option maxRecDepth 200000 in
theorem bX9_glanced_209 {l : Launch} {w : nW} (N : Nat) {G : nG} (hG : n_GOK G) (x2 : Int32) (x5 : Int32) (x6 : Int32) (x7 : Int32) (x8 : Int32) (s0 : Int32) (M : nM) (r : Int32 × nM) (h : fX9_glanced_209 N x2 x5 x6 x7 x8 s0 M = some r) : n_At l w 1 mX9_glanced 209 [(2, .int x2), (5, .int x5), (6, .int x6), (7, .int x7), (8, .int x8)] [.int s0] (G, M) (dv_i r.1, (G, r.2)) :=
  n_seg (fin := n_fin dv_i G) (K := []) 21 (iX9_glanced N hG) n_ke (by rfl) h
def fX9_glanced_204 (N : Nat) (x2 : Int32) (x5 : Int32) (x6 : Int32) (x7 : Int32) (x8 : Int32) (M : nM) : Option (Int32 × nM) :=
  fX9_glanced_209 N x2 x5 x6 x7 x8 (1 : Int32) M
set_option maxRecDepth 200000 in
theorem bX9_glanced_204 {l : Launch} {w : nW} (N : Nat) {G : nG} (hG : n_GOK G) (x2 : Int32) (x5 : Int32) (x6 : Int32) (x7 : Int32) (x8 : Int32) (M : nM) (r : Int32 × nM) (h : fX9_glanced_204 N x2 x5 x6 x7 x8 M = some r) : n_At l w 1 mX9_glanced 204 [(2, .int x2), (5, .int x5), (6, .int x6), (7, .int x7), (8, .int x8)] [] (G, M) (dv_i r.1, (G, r.2)) :=
  n_seg (fin := n_fin dv_i G) (K := [(209, fun lv st M => n_lI lv 2 (fun x2 => n_lI lv 5 (fun x5 => n_lI lv 6 (fun x6 => n_lI lv 7 (fun x7 => n_lI lv 8 (fun x8 => n_pI st (fun s0 st => n_pE st (fX9_glanced_209 N x2 x5 x6 x7 x8 s0 M))))))))]) 5 (iX9_glanced N hG) (n_kc (fun lv st M r h => by
      obtain ⟨x2, e2, h1⟩ := n_lI_x h
      obtain ⟨x5, e5, h2⟩ := n_lI_x h1
      obtain ⟨x6, e6, h3⟩ := n_lI_x h2
      obtain ⟨x7, e7, h4⟩ := n_lI_x h3
      obtain ⟨x8, e8, h5⟩ := n_lI_x h4
      obtain ⟨s0, t0, rfl, h6⟩ := n_pI_x h5
      obtain ⟨rfl, h7⟩ := n_pE_x h6
      exact n_sub (n_qc e2 (n_qc e5 (n_qc e6 (n_qc e7 (n_qc e8 n_qe))))) (bX9_glanced_209 N hG x2 x5 x6 x7 x8 s0 M r h7)) n_ke) (by rfl) h
def fX9_glanced_193 (N : Nat) (x2 : Int32) (x5 : Int32) (x6 : Int32) (x7 : Int32) (x8 : Int32) (M : nM) : Option (Int32 × nM) :=
  if x5 = 0 then
    fX9_glanced_204 N x2 x5 x6 x7 x8 M
  else
    if ¬ x5 = (2 : Int32) then
      fX9_glanced_209 N x2 x5 x6 x7 x8 (0 : Int32) M
    else
      fX9_glanced_204 N x2 x5 x6 x7 x8 M
set_option maxRecDepth 200000 in
theorem bX9_glanced_193 {l : Launch} {w : nW} (N : Nat) {G : nG} (hG : n_GOK G) (x2 : Int32) (x5 : Int32) (x6 : Int32) (x7 : Int32) (x8 : Int32) (M : nM) (r : Int32 × nM) (h : fX9_glanced_193 N x2 x5 x6 x7 x8 M = some r) : n_At l w 1 mX9_glanced 193 [(2, .int x2), (5, .int x5), (6, .int x6), (7, .int x7), (8, .int x8)] [] (G, M) (dv_i r.1, (G, r.2)) :=
  n_seg (fin := n_fin dv_i G) (K := [(204, fun lv st M => n_lI lv 2 (fun x2 => n_lI lv 5 (fun x5 => n_lI lv 6 (fun x6 => n_lI lv 7 (fun x7 => n_lI lv 8 (fun x8 => n_pE st (fX9_glanced_204 N x2 x5 x6 x7 x8 M))))))), (209, fun lv st M => n_lI lv 2 (fun x2 => n_lI lv 5 (fun x5 => n_lI lv 6 (fun x6 => n_lI lv 7 (fun x7 => n_lI lv 8 (fun x8 => n_pI st (fun s0 st => n_pE st (fX9_glanced_209 N x2 x5 x6 x7 x8 s0 M))))))))]) 9 (iX9_glanced N hG) (n_kc (fun lv st M r h => by
      obtain ⟨x2, e2, h1⟩ := n_lI_x h
      obtain ⟨x5, e5, h2⟩ := n_lI_x h1
      obtain ⟨x6, e6, h3⟩ := n_lI_x h2
      obtain ⟨x7, e7, h4⟩ := n_lI_x h3
      obtain ⟨x8, e8, h5⟩ := n_lI_x h4
      obtain ⟨rfl, h6⟩ := n_pE_x h5
      exact n_sub (n_qc e2 (n_qc e5 (n_qc e6 (n_qc e7 (n_qc e8 n_qe))))) (bX9_glanced_204 N hG x2 x5 x6 x7 x8 M r h6)) (n_kc (fun lv st M r h => by
      obtain ⟨x2, e2, h1⟩ := n_lI_x h
      obtain ⟨x5, e5, h2⟩ := n_lI_x h1
      obtain ⟨x6, e6, h3⟩ := n_lI_x h2
      obtain ⟨x7, e7, h4⟩ := n_lI_x h3
      obtain ⟨x8, e8, h5⟩ := n_lI_x h4
      obtain ⟨s0, t0, rfl, h6⟩ := n_pI_x h5
      obtain ⟨rfl, h7⟩ := n_pE_x h6
      exact n_sub (n_qc e2 (n_qc e5 (n_qc e6 (n_qc e7 (n_qc e8 n_qe))))) (bX9_glanced_209 N hG x2 x5 x6 x7 x8 s0 M r h7)) n_ke)) (by rfl) h
def fX9_glanced_67 (N : Nat) : Nat → Int32 → Int32 → Int32 → Int32 → Int32 → Int32 → nM → Option (Int32 × nM)
  | 0, _, _, _, _, _, _, _ => none
  | n + 1, x2, x5, x6, x7, x8, x9, M =>
    if (144 : Int32) ≤ x9 then
      fX9_glanced_193 N x2 x5 x6 x7 x8 M
    else
      (fX9_inGrid x6 M).bind fun p1 =>
      if p1.1 = 0 then
        fX9_glanced_193 N x2 x5 x6 x7 x8 p1.2
      else
        (fX9_inGrid x7 p1.2).bind fun p2 =>
        if p2.1 = 0 then
          fX9_glanced_193 N x2 x5 x6 x7 x8 p2.2
        else
          n_chk (n_ib 36 ((x6 * (6 : Int32)) + x7)) <|
          let v3 : Int32 := (p2.2 44 ((x6 * (6 : Int32)) + x7).toNatClampNeg)
          if v3 = 0 then
            fX9_glanced_136 N (fun x2 x5 x6 x7 x8 x9 M => fX9_glanced_67 N n x2 x5 x6 x7 x8 x9 M) x2 x5 x6 x7 x8 x9 p2.2
          else
            let v4 : Int32 := (x8 + (1 : Int32))
            if ¬ v3 = (1 : Int32) then
              fX9_glanced_134 N (fun x2 x5 x6 x7 x8 x9 M => fX9_glanced_67 N n x2 x5 x6 x7 x8 x9 M) x2 x6 x7 v4 x9 ((3 : Int32) - x5) p2.2
            else
              fX9_glanced_134 N (fun x2 x5 x6 x7 x8 x9 M => fX9_glanced_67 N n x2 x5 x6 x7 x8 x9 M) x2 x6 x7 v4 x9 (x5 ^^^ (1 : Int32)) p2.2
set_option maxRecDepth 200000 in
theorem bX9_glanced_67 {l : Launch} {w : nW} (N : Nat) {G : nG} (hG : n_GOK G) : ∀ (n : Nat) (x2 : Int32) (x5 : Int32) (x6 : Int32) (x7 : Int32) (x8 : Int32) (x9 : Int32) (M : nM) (r : Int32 × nM), fX9_glanced_67 N n x2 x5 x6 x7 x8 x9 M = some r → n_At l w 1 mX9_glanced 67 [(0, .ref 98), (2, .int x2), (5, .int x5), (6, .int x6), (7, .int x7), (8, .int x8), (9, .int x9)] [] (G, M) (dv_i r.1, (G, r.2)) := by
  intro n
  induction n with
  | zero => intro x2 x5 x6 x7 x8 x9 M r h; cases (show (none : Option (Int32 × nM)) = some r from h)
  | succ n ih =>
    intro x2 x5 x6 x7 x8 x9 M r h
    exact n_seg (fin := n_fin dv_i G) (K := [(134, fun lv st M => n_lC 98 lv 0 (n_lI lv 2 (fun x2 => n_lI lv 6 (fun x6 => n_lI lv 7 (fun x7 => n_lI lv 8 (fun x8 => n_lI lv 9 (fun x9 => n_pI st (fun s0 st => n_pE st (fX9_glanced_134 N (fun x2 x5 x6 x7 x8 x9 M => fX9_glanced_67 N n x2 x5 x6 x7 x8 x9 M) x2 x6 x7 x8 x9 s0 M))))))))), (136, fun lv st M => n_lC 98 lv 0 (n_lI lv 2 (fun x2 => n_lI lv 5 (fun x5 => n_lI lv 6 (fun x6 => n_lI lv 7 (fun x7 => n_lI lv 8 (fun x8 => n_lI lv 9 (fun x9 => n_pE st (fX9_glanced_136 N (fun x2 x5 x6 x7 x8 x9 M => fX9_glanced_67 N n x2 x5 x6 x7 x8 x9 M) x2 x5 x6 x7 x8 x9 M))))))))), (193, fun lv st M => n_lI lv 2 (fun x2 => n_lI lv 5 (fun x5 => n_lI lv 6 (fun x6 => n_lI lv 7 (fun x7 => n_lI lv 8 (fun x8 => n_pE st (fX9_glanced_193 N x2 x5 x6 x7 x8 M)))))))]) 35 (iX9_glanced N hG) (n_kc (fun lv st M r h => by
      obtain ⟨e0, h1⟩ := n_lC_x h
      obtain ⟨x2, e2, h2⟩ := n_lI_x h1
      obtain ⟨x6, e6, h3⟩ := n_lI_x h2
      obtain ⟨x7, e7, h4⟩ := n_lI_x h3
      obtain ⟨x8, e8, h5⟩ := n_lI_x h4
      obtain ⟨x9, e9, h6⟩ := n_lI_x h5
      obtain ⟨s0, t0, rfl, h7⟩ := n_pI_x h6
      obtain ⟨rfl, h8⟩ := n_pE_x h7
      exact n_sub (n_qc e0 (n_qc e2 (n_qc e6 (n_qc e7 (n_qc e8 (n_qc e9 n_qe)))))) (bX9_glanced_134 N hG (fun x2 x5 x6 x7 x8 x9 M => fX9_glanced_67 N n x2 x5 x6 x7 x8 x9 M) ih x2 x6 x7 x8 x9 s0 M r h8)) (n_kc (fun lv st M r h => by
      obtain ⟨e0, h1⟩ := n_lC_x h
      obtain ⟨x2, e2, h2⟩ := n_lI_x h1
      obtain ⟨x5, e5, h3⟩ := n_lI_x h2
      obtain ⟨x6, e6, h4⟩ := n_lI_x h3
      obtain ⟨x7, e7, h5⟩ := n_lI_x h4
      obtain ⟨x8, e8, h6⟩ := n_lI_x h5
      obtain ⟨x9, e9, h7⟩ := n_lI_x h6
      obtain ⟨rfl, h8⟩ := n_pE_x h7
      exact n_sub (n_qc e0 (n_qc e2 (n_qc e5 (n_qc e6 (n_qc e7 (n_qc e8 (n_qc e9 n_qe))))))) (bX9_glanced_136 N hG (fun x2 x5 x6 x7 x8 x9 M => fX9_glanced_67 N n x2 x5 x6 x7 x8 x9 M) ih x2 x5 x6 x7 x8 x9 M r h8)) (n_kc (fun lv st M r h => by
      obtain ⟨x2, e2, h1⟩ := n_lI_x h
      obtain ⟨x5, e5, h2⟩ := n_lI_x h1
      obtain ⟨x6, e6, h3⟩ := n_lI_x h2
      obtain ⟨x7, e7, h4⟩ := n_lI_x h3
      obtain ⟨x8, e8, h5⟩ := n_lI_x h4
      obtain ⟨rfl, h6⟩ := n_pE_x h5
      exact n_sub (n_qc e2 (n_qc e5 (n_qc e6 (n_qc e7 (n_qc e8 n_qe))))) (bX9_glanced_193 N hG x2 x5 x6 x7 x8 M r h6)) n_ke))) (by rfl) h
def fX9_glanced_37 (N : Nat) (x2 : Int32) (x3 : Int32) (x4 : Int32) (x5 : Int32) (s0 : Int32) (M : nM) : Option (Int32 × nM) :=
  if ¬ x3 = (3 : Int32) then
    if ¬ x3 = (1 : Int32) then
      fX9_glanced_67 N N x2 x5 s0 x4 (0 : Int32) (0 : Int32) M
    else
      fX9_glanced_67 N N x2 x5 s0 (5 : Int32) (0 : Int32) (0 : Int32) M
  else
    fX9_glanced_67 N N x2 x5 s0 (0 : Int32) (0 : Int32) (0 : Int32) M
set_option maxRecDepth 200000 in
theorem bX9_glanced_37 {l : Launch} {w : nW} (N : Nat) {G : nG} (hG : n_GOK G) (x2 : Int32) (x3 : Int32) (x4 : Int32) (x5 : Int32) (s0 : Int32) (M : nM) (r : Int32 × nM) (h : fX9_glanced_37 N x2 x3 x4 x5 s0 M = some r) : n_At l w 1 mX9_glanced 37 [(0, .ref 98), (2, .int x2), (3, .int x3), (4, .int x4), (5, .int x5)] [.int s0] (G, M) (dv_i r.1, (G, r.2)) :=
  n_seg (fin := n_fin dv_i G) (K := [(67, fun lv st M => n_lC 98 lv 0 (n_lI lv 2 (fun x2 => n_lI lv 5 (fun x5 => n_lI lv 6 (fun x6 => n_lI lv 7 (fun x7 => n_lI lv 8 (fun x8 => n_lI lv 9 (fun x9 => n_pE st (fX9_glanced_67 N N x2 x5 x6 x7 x8 x9 M)))))))))]) 30 (iX9_glanced N hG) (n_kc (fun lv st M r h => by
      obtain ⟨e0, h1⟩ := n_lC_x h
      obtain ⟨x2, e2, h2⟩ := n_lI_x h1
      obtain ⟨x5, e5, h3⟩ := n_lI_x h2
      obtain ⟨x6, e6, h4⟩ := n_lI_x h3
      obtain ⟨x7, e7, h5⟩ := n_lI_x h4
      obtain ⟨x8, e8, h6⟩ := n_lI_x h5
      obtain ⟨x9, e9, h7⟩ := n_lI_x h6
      obtain ⟨rfl, h8⟩ := n_pE_x h7
      exact n_sub (n_qc e0 (n_qc e2 (n_qc e5 (n_qc e6 (n_qc e7 (n_qc e8 (n_qc e9 n_qe))))))) (bX9_glanced_67 N hG N x2 x5 x6 x7 x8 x9 M r h8)) n_ke) (by rfl) h
def fX9_glanced (N : Nat) (x1 : Int32) (x2 : Int32) (M : nM) : Option (Int32 × nM) :=
  if (6 : Int32) = 0 then none else
  let v1 : Int32 := (x1 / (6 : Int32))
  if (6 : Int32) = 0 then none else
  let v2 : Int32 := (x1 - x1 / (6 : Int32) * (6 : Int32))
  if (4 : Int32) = 0 then none else
  let v3 : Int32 := ((v1 + (2 : Int32)) - (v1 + (2 : Int32)) / (4 : Int32) * (4 : Int32))
  if ¬ v1 = 0 then
    if ¬ v1 = (2 : Int32) then
      fX9_glanced_37 N x2 v1 v2 v3 v2 M
    else
      fX9_glanced_37 N x2 v1 v2 v3 (5 : Int32) M
  else
    fX9_glanced_37 N x2 v1 v2 v3 (0 : Int32) M
set_option maxRecDepth 200000 in
theorem bX9_glanced_0 {l : Launch} {w : nW} (N : Nat) {G : nG} (hG : n_GOK G) (x1 : Int32) (x2 : Int32) (M : nM) (r : Int32 × nM) (h : fX9_glanced N x1 x2 M = some r) : n_At l w 1 mX9_glanced 0 [(0, .ref 98), (1, .int x1), (2, .int x2)] [] (G, M) (dv_i r.1, (G, r.2)) :=
  n_seg (fin := n_fin dv_i G) (K := [(37, fun lv st M => n_lC 98 lv 0 (n_lI lv 2 (fun x2 => n_lI lv 3 (fun x3 => n_lI lv 4 (fun x4 => n_lI lv 5 (fun x5 => n_pI st (fun s0 st => n_pE st (fX9_glanced_37 N x2 x3 x4 x5 s0 M))))))))]) 27 (iX9_glanced N hG) (n_kc (fun lv st M r h => by
      obtain ⟨e0, h1⟩ := n_lC_x h
      obtain ⟨x2, e2, h2⟩ := n_lI_x h1
      obtain ⟨x3, e3, h3⟩ := n_lI_x h2
      obtain ⟨x4, e4, h4⟩ := n_lI_x h3
      obtain ⟨x5, e5, h5⟩ := n_lI_x h4
      obtain ⟨s0, t0, rfl, h6⟩ := n_pI_x h5
      obtain ⟨rfl, h7⟩ := n_pE_x h6
      exact n_sub (n_qc e0 (n_qc e2 (n_qc e3 (n_qc e4 (n_qc e5 n_qe))))) (bX9_glanced_37 N hG x2 x3 x4 x5 s0 M r h7)) n_ke) (by rfl) h
theorem eX9_glanced {l : Launch} {w : nW} (N : Nat) {G : nG} (hG : n_GOK G) (z1 : Int32) (z2 : Int32) (M : nM) (r : Int32 × nM) (h : fX9_glanced N z1 z2 M = some r) : n_Met l w 1 mX9_glanced [.ref 98, .int z1, .int z2] (G, M) (dv_i r.1, (G, r.2)) :=
  n_entry (by decide +kernel) rfl (Nat.le_of_ble_eq_true rfl) (n_sub (lv := [(0, .ref 98), (1, .int z1), (2, .int z2)]) (n_qc rfl (n_qc rfl (n_qc rfl n_qe))) (bX9_glanced_0 N hG z1 z2 M r h))
abbrev hX9_glanced (N : Nat) : nF := fun T as M k => n_pC 98 as (fun as => n_pI as (fun z1 as => n_pI as (fun z2 as => n_pE as ((fX9_glanced N z1 z2 M).bind fun p => k (dv_i p.1) p.2))))
theorem csX9_glanced {l : Launch} {w : nW} (N : Nat) {G : nG} (hG : n_GOK G) : n_CS l w 1 mX9_glanced G (hX9_glanced N) := fun T as M k r h => by
  obtain ⟨t0, rfl, h1⟩ := n_pC_x h
  obtain ⟨z1, t1, rfl, h2⟩ := n_pI_x h1
  obtain ⟨z2, t2, rfl, h3⟩ := n_pI_x h2
  obtain ⟨rfl, hE⟩ := n_pE_x h3
  obtain ⟨p, hp, hk⟩ := Option.bind_eq_some_iff.mp hE
  exact ⟨_, _, eX9_glanced N hG z1 z2 M p hp, hk⟩
/-! ===== SleightHouse.glance(II)I ===== -/
def mX11_glance : nY := (RX11, yX11_glance, cX11_glance, 3, some .int)
theorem okX11_glance : n_MOK mX11_glance 2 := ⟨w_1309, w_137, ⟨by decide +kernel, by decide +kernel, by decide +kernel⟩, by decide⟩
abbrev aX11_glance (N : Nat) : List (Nat × nO (Int32 × nM)) := [(0, o_iload 1 1), (1, o_push (.int (0 : Int32)) 2), (2, o_push (.int (23 : Int32)) 4), (4, o_call 3 (hX11_within) 7), (7, oi_eq 19 10), (10, o_iload 2 11), (11, o_push (.int (0 : Int32)) 12), (12, o_push (.int (1 : Int32)) 13), (13, o_call 3 (hX11_within) 16), (16, oi_ne 21 19), (19, o_push (.int (-1 : Int32)) 20), (20, o_iret), (21, o_aload 0 22), (22, o_gRc 1 98 25), (25, o_iload 1 26), (26, o_iload 2 27), (27, o_push (.int (1 : Int32)) 28), (28, oc_ne 35 31), (31, o_push (.int (1 : Int32)) 32), (32, o_goto 36), (35, o_push (.int (0 : Int32)) 36), (36, o_callVc 98 2 (hX9_glanced N) 39), (39, o_iret)]
set_option maxRecDepth 200000 in
theorem iX11_glance {l : Launch} {w : nW} (N : Nat) {G : nG} (hG : n_GOK G) : n_AllS l w 2 mX11_glance G (n_fin dv_i G) (aX11_glance N) :=
  n_c (s_iload_n (pc := 0) (k := 1) (by decide +kernel)) <|
  n_c (s_iconst (pc := 1) (n := 0) (by decide +kernel) (by decide +kernel)) <|
  n_c (s_bipush (pc := 2) (n := 23) (by decide +kernel) (by decide +kernel)) <|
  n_c (s_callS (pc := 4) (csX11_within) (by decide) okX11_within w_610 w_609 (by decide +kernel)) <|
  n_c (s_if_eq (pc := 7) (off := 12) (by decide +kernel) (by decide +kernel)) <|
  n_c (s_iload_n (pc := 10) (k := 2) (by decide +kernel)) <|
  n_c (s_iconst (pc := 11) (n := 0) (by decide +kernel) (by decide +kernel)) <|
  n_c (s_iconst (pc := 12) (n := 1) (by decide +kernel) (by decide +kernel)) <|
  n_c (s_callS (pc := 13) (csX11_within) (by decide) okX11_within w_610 w_609 (by decide +kernel)) <|
  n_c (s_if_ne (pc := 16) (off := 5) (by decide +kernel) (by decide +kernel)) <|
  n_c (s_iconst (pc := 19) (n := -1) (by decide +kernel) (by decide +kernel)) <|
  n_c (s_iret (pc := 20) rfl (by decide +kernel)) <|
  n_c (s_aload_n (pc := 21) (k := 0) (by decide +kernel)) <|
  n_c (s_gRc (s_getR (pc := 22) (ci := 11) (k := 5) (idx := 63) nok11 (by decide) rfl (by decide +kernel) w_577) (gk1 hG) (gm1_5 hG)) <|
  n_c (s_iload_n (pc := 25) (k := 1) (by decide +kernel)) <|
  n_c (s_iload_n (pc := 26) (k := 2) (by decide +kernel)) <|
  n_c (s_iconst (pc := 27) (n := 1) (by decide +kernel) (by decide +kernel)) <|
  n_c (s_icmp_ne (pc := 28) (off := 7) (by decide +kernel) (by decide +kernel)) <|
  n_c (s_iconst (pc := 31) (n := 1) (by decide +kernel) (by decide +kernel)) <|
  n_c (s_goto (pc := 32) (off := 4) (by decide +kernel) (by decide +kernel)) <|
  n_c (s_iconst (pc := 35) (n := 0) (by decide +kernel) (by decide +kernel)) <|
  n_c (s_callVc (s_callV (pc := 36) (csX9_glanced N hG) (by decide) okX9_glanced nok9 w_1311 w_1312 w_1310 (by decide +kernel)) (gk98 hG)) <|
  n_c (s_iret (pc := 39) rfl (by decide +kernel)) <|
  n_e
def fX11_glance_36 (N : Nat) (s0 : Int32) (s1 : Int32) (M : nM) : Option (Int32 × nM) :=
  (fX9_glanced N s1 s0 M).bind fun p1 =>
  some (p1.1, p1.2)
set_option maxRecDepth 200000 in
theorem bX11_glance_36 {l : Launch} {w : nW} (N : Nat) {G : nG} (hG : n_GOK G) (s0 : Int32) (s1 : Int32) (M : nM) (r : Int32 × nM) (h : fX11_glance_36 N s0 s1 M = some r) : n_At l w 2 mX11_glance 36 [] [.int s0, .int s1, .ref 98] (G, M) (dv_i r.1, (G, r.2)) :=
  n_seg (fin := n_fin dv_i G) (K := []) 5 (iX11_glance N hG) n_ke (by rfl) h
def fX11_glance (N : Nat) (x1 : Int32) (x2 : Int32) (M : nM) : Option (Int32 × nM) :=
  (fX11_within x1 (0 : Int32) (23 : Int32) M).bind fun p1 =>
  if p1.1 = 0 then
    some ((-1 : Int32), p1.2)
  else
    (fX11_within x2 (0 : Int32) (1 : Int32) p1.2).bind fun p2 =>
    if ¬ p2.1 = 0 then
      if ¬ x2 = (1 : Int32) then
        fX11_glance_36 N (0 : Int32) x1 p2.2
      else
        fX11_glance_36 N (1 : Int32) x1 p2.2
    else
      some ((-1 : Int32), p2.2)
set_option maxRecDepth 200000 in
theorem bX11_glance_0 {l : Launch} {w : nW} (N : Nat) {G : nG} (hG : n_GOK G) (x1 : Int32) (x2 : Int32) (M : nM) (r : Int32 × nM) (h : fX11_glance N x1 x2 M = some r) : n_At l w 2 mX11_glance 0 [(0, .ref 1), (1, .int x1), (2, .int x2)] [] (G, M) (dv_i r.1, (G, r.2)) :=
  n_seg (fin := n_fin dv_i G) (K := [(36, fun lv st M => n_pI st (fun s0 st => n_pI st (fun s1 st => n_pC 98 st (fun st => n_pE st (fX11_glance_36 N s0 s1 M)))))]) 26 (iX11_glance N hG) (n_kc (fun lv st M r h => by
      obtain ⟨s0, t0, rfl, h1⟩ := n_pI_x h
      obtain ⟨s1, t1, rfl, h2⟩ := n_pI_x h1
      obtain ⟨t2, rfl, h3⟩ := n_pC_x h2
      obtain ⟨rfl, h4⟩ := n_pE_x h3
      exact n_sub n_qe (bX11_glance_36 N hG s0 s1 M r h4)) n_ke) (by rfl) h
theorem eX11_glance {l : Launch} {w : nW} (N : Nat) {G : nG} (hG : n_GOK G) (z1 : Int32) (z2 : Int32) (M : nM) (r : Int32 × nM) (h : fX11_glance N z1 z2 M = some r) : n_Met l w 2 mX11_glance [.ref 1, .int z1, .int z2] (G, M) (dv_i r.1, (G, r.2)) :=
  n_entry (by decide +kernel) rfl (Nat.le_of_ble_eq_true rfl) (n_sub (lv := [(0, .ref 1), (1, .int z1), (2, .int z2)]) (n_qc rfl (n_qc rfl (n_qc rfl n_qe))) (bX11_glance_0 N hG z1 z2 M r h))
abbrev hX11_glance (N : Nat) : nF := fun T as M k => n_pC 1 as (fun as => n_pI as (fun z1 as => n_pI as (fun z2 as => n_pE as ((fX11_glance N z1 z2 M).bind fun p => k (dv_i p.1) p.2))))
theorem csX11_glance {l : Launch} {w : nW} (N : Nat) {G : nG} (hG : n_GOK G) : n_CS l w 2 mX11_glance G (hX11_glance N) := fun T as M k r h => by
  obtain ⟨t0, rfl, h1⟩ := n_pC_x h
  obtain ⟨z1, t1, rfl, h2⟩ := n_pI_x h1
  obtain ⟨z2, t2, rfl, h3⟩ := n_pI_x h2
  obtain ⟨rfl, hE⟩ := n_pE_x h3
  obtain ⟨p, hp, hk⟩ := Option.bind_eq_some_iff.mp hE
  exact ⟨_, _, eX11_glance N hG z1 z2 M p hp, hk⟩
