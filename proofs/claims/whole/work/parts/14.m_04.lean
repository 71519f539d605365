/-! ===== SleightHouse.act(II)Z ===== -/
def mX11_act : nY := (RX11, yX11_act, cX11_act, 7, some .boolean)
theorem okX11_act : n_MOK mX11_act 2 := ⟨w_775, w_137, ⟨by decide +kernel, by decide +kernel, by decide +kernel⟩, by decide⟩
abbrev aX11_act (G : nG) : List (Nat × nO (Int32 × nM)) := [(0, o_aload 0 1), (1, o_gRc 1 2 4), (4, o_gRc 2 9 7), (7, o_astore 7 3 8), (8, o_iload 1 9), (9, oi_eq 17 12), (12, o_iload 1 13), (13, o_push (.int (1 : Int32)) 14), (14, oc_ne 21 17), (17, o_push (.int (1 : Int32)) 18), (18, o_goto 22), (21, o_push (.int (0 : Int32)) 22), (22, o_istore 7 4 24), (24, o_iload 1 25), (25, o_push (.int (2 : Int32)) 26), (26, oc_eq 34 29), (29, o_iload 1 30), (30, o_push (.int (3 : Int32)) 31), (31, oc_ne 38 34), (34, o_push (.int (1 : Int32)) 35), (35, o_goto 39), (38, o_push (.int (0 : Int32)) 39), (39, o_istore 7 5 41), (41, o_iload 4 43), (43, oi_eq 57 46), (46, o_aload 0 47), (47, o_gRc 1 2 50), (50, o_iload 2 51), (51, o_callVc 2 1 (hX1_hasPerson) 54), (54, oi_ne 75 57), (57, o_iload 5 59), (59, oi_eq 73 62), (62, o_aload 0 63), (63, o_gRc 1 2 66), (66, o_iload 2 67), (67, o_callVc 2 1 (hX1_hasPlace) 70), (70, oi_ne 75 73), (73, o_push (.int (0 : Int32)) 74), (74, o_zret), (75, o_iload 1 76), (76, oi_eq 84 79), (79, o_iload 1 80), (80, o_push (.int (2 : Int32)) 81), (81, oc_ne 88 84), (84, o_push (.int (1 : Int32)) 85), (85, o_goto 89), (88, o_push (.int (0 : Int32)) 89), (89, o_istore 7 6 91), (91, o_iload 4 93), (93, oi_eq 103 96), (96, o_aload 3 97), (97, o_gIc 9 6 100), (100, o_goto 107), (103, o_aload 3 104), (104, o_gIc 9 7 107), (107, o_iload 2 108), (108, o_call 2 (hX4_hasBit) 111), (111, o_iload 6 113), (113, oc_ne 118 116), (116, o_push (.int (0 : Int32)) 117), (117, o_zret), (118, o_aload 0 119), (119, o_gRc 1 48 122), (122, o_aload 3 123), (123, o_callVc 48 1 (hX5_keep G) 126), (126, o_iload 4 128), (128, oi_eq 148 131), (131, o_aload 3 132), (132, o_aload 3 133), (133, o_gIc 9 6 136), (136, o_iload 2 137), (137, o_iload 6 139), (139, o_call 3 (hX4_withBit) 142), (142, o_pIc 9 6 145), (145, o_goto 162), (148, o_aload 3 149), (149, o_aload 3 150), (150, o_gIc 9 7 153), (153, o_iload 2 154), (154, o_iload 6 156), (156, o_call 3 (hX4_withBit) 159), (159, o_pIc 9 7 162), (162, o_push (.int (1 : Int32)) 163), (163, o_zret)]
set_option maxRecDepth 200000 in
theorem iX11_act {l : Launch} {w : nW} {G : nG} (hG : n_GOK G) : n_AllS l w 2 mX11_act G (n_fin dv_i G) (aX11_act G) :=
  n_c (s_aload_n (pc := 0) (k := 0) (by decide +kernel)) <|
  n_c (s_gRc (s_getR (pc := 1) (ci := 11) (k := 0) (idx := 10) nok11 (by decide) rfl (by decide +kernel) w_572) (gk1 hG) (gm1_0 hG)) <|
  n_c (s_gRc (s_getR (pc := 4) (ci := 1) (k := 1) (idx := 77) nok1 (by decide) rfl (by decide +kernel) w_406) (gk2 hG) (gm2_1 hG)) <|
  n_c (s_astore_n (pc := 7) (k := 3) (by decide +kernel)) <|
  n_c (s_iload_n (pc := 8) (k := 1) (by decide +kernel)) <|
  n_c (s_if_eq (pc := 9) (off := 8) (by decide +kernel) (by decide +kernel)) <|
  n_c (s_iload_n (pc := 12) (k := 1) (by decide +kernel)) <|
  n_c (s_iconst (pc := 13) (n := 1) (by decide +kernel) (by decide +kernel)) <|
  n_c (s_icmp_ne (pc := 14) (off := 7) (by decide +kernel) (by decide +kernel)) <|
  n_c (s_iconst (pc := 17) (n := 1) (by decide +kernel) (by decide +kernel)) <|
  n_c (s_goto (pc := 18) (off := 4) (by decide +kernel) (by decide +kernel)) <|
  n_c (s_iconst (pc := 21) (n := 0) (by decide +kernel) (by decide +kernel)) <|
  n_c (s_istore (pc := 22) (by decide +kernel)) <|
  n_c (s_iload_n (pc := 24) (k := 1) (by decide +kernel)) <|
  n_c (s_iconst (pc := 25) (n := 2) (by decide +kernel) (by decide +kernel)) <|
  n_c (s_icmp_eq (pc := 26) (off := 8) (by decide +kernel) (by decide +kernel)) <|
  n_c (s_iload_n (pc := 29) (k := 1) (by decide +kernel)) <|
  n_c (s_iconst (pc := 30) (n := 3) (by decide +kernel) (by decide +kernel)) <|
  n_c (s_icmp_ne (pc := 31) (off := 7) (by decide +kernel) (by decide +kernel)) <|
  n_c (s_iconst (pc := 34) (n := 1) (by decide +kernel) (by decide +kernel)) <|
  n_c (s_goto (pc := 35) (off := 4) (by decide +kernel) (by decide +kernel)) <|
  n_c (s_iconst (pc := 38) (n := 0) (by decide +kernel) (by decide +kernel)) <|
  n_c (s_istore (pc := 39) (by decide +kernel)) <|
  n_c (s_iload (pc := 41) (by decide +kernel)) <|
  n_c (s_if_eq (pc := 43) (off := 14) (by decide +kernel) (by decide +kernel)) <|
  n_c (s_aload_n (pc := 46) (k := 0) (by decide +kernel)) <|
  n_c (s_gRc (s_getR (pc := 47) (ci := 11) (k := 0) (idx := 10) nok11 (by decide) rfl (by decide +kernel) w_572) (gk1 hG) (gm1_0 hG)) <|
  n_c (s_iload_n (pc := 50) (k := 2) (by decide +kernel)) <|
  n_c (s_callVc (s_callV (pc := 51) (csX1_hasPerson hG) (by decide) okX1_hasPerson nok1 w_660 w_661 w_659 (by decide +kernel)) (gk2 hG)) <|
  n_c (s_if_ne (pc := 54) (off := 21) (by decide +kernel) (by decide +kernel)) <|
  n_c (s_iload (pc := 57) (by decide +kernel)) <|
  n_c (s_if_eq (pc := 59) (off := 14) (by decide +kernel) (by decide +kernel)) <|
  n_c (s_aload_n (pc := 62) (k := 0) (by decide +kernel)) <|
  n_c (s_gRc (s_getR (pc := 63) (ci := 11) (k := 0) (idx := 10) nok11 (by decide) rfl (by decide +kernel) w_572) (gk1 hG) (gm1_0 hG)) <|
  n_c (s_iload_n (pc := 66) (k := 2) (by decide +kernel)) <|
  n_c (s_callVc (s_callV (pc := 67) (csX1_hasPlace) (by decide) okX1_hasPlace nok1 w_613 w_614 w_612 (by decide +kernel)) (gk2 hG)) <|
  n_c (s_if_ne (pc := 70) (off := 5) (by decide +kernel) (by decide +kernel)) <|
  n_c (s_iconst (pc := 73) (n := 0) (by decide +kernel) (by decide +kernel)) <|
  n_c (s_zret (pc := 74) rfl (by decide +kernel)) <|
  n_c (s_iload_n (pc := 75) (k := 1) (by decide +kernel)) <|
  n_c (s_if_eq (pc := 76) (off := 8) (by decide +kernel) (by decide +kernel)) <|
  n_c (s_iload_n (pc := 79) (k := 1) (by decide +kernel)) <|
  n_c (s_iconst (pc := 80) (n := 2) (by decide +kernel) (by decide +kernel)) <|
  n_c (s_icmp_ne (pc := 81) (off := 7) (by decide +kernel) (by decide +kernel)) <|
  n_c (s_iconst (pc := 84) (n := 1) (by decide +kernel) (by decide +kernel)) <|
  n_c (s_goto (pc := 85) (off := 4) (by decide +kernel) (by decide +kernel)) <|
  n_c (s_iconst (pc := 88) (n := 0) (by decide +kernel) (by decide +kernel)) <|
  n_c (s_istore (pc := 89) (by decide +kernel)) <|
  n_c (s_iload (pc := 91) (by decide +kernel)) <|
  n_c (s_if_eq (pc := 93) (off := 10) (by decide +kernel) (by decide +kernel)) <|
  n_c (s_aload_n (pc := 96) (k := 3) (by decide +kernel)) <|
  n_c (s_gIc (s_getI (pc := 97) (ci := 4) (k := 6) (idx := 174) nok4 (by decide) rfl (by decide +kernel) w_247) (gk9 hG)) <|
  n_c (s_goto (pc := 100) (off := 7) (by decide +kernel) (by decide +kernel)) <|
  n_c (s_aload_n (pc := 103) (k := 3) (by decide +kernel)) <|
  n_c (s_gIc (s_getI (pc := 104) (ci := 4) (k := 7) (idx := 177) nok4 (by decide) rfl (by decide +kernel) w_250) (gk9 hG)) <|
  n_c (s_iload_n (pc := 107) (k := 2) (by decide +kernel)) <|
  n_c (s_callS (pc := 108) (csX4_hasBit) (by decide) okX4_hasBit w_675 w_776 (by decide +kernel)) <|
  n_c (s_iload (pc := 111) (by decide +kernel)) <|
  n_c (s_icmp_ne (pc := 113) (off := 5) (by decide +kernel) (by decide +kernel)) <|
  n_c (s_iconst (pc := 116) (n := 0) (by decide +kernel) (by decide +kernel)) <|
  n_c (s_zret (pc := 117) rfl (by decide +kernel)) <|
  n_c (s_aload_n (pc := 118) (k := 0) (by decide +kernel)) <|
  n_c (s_gRc (s_getR (pc := 119) (ci := 11) (k := 2) (idx := 28) nok11 (by decide) rfl (by decide +kernel) w_574) (gk1 hG) (gm1_2 hG)) <|
  n_c (s_aload_n (pc := 122) (k := 3) (by decide +kernel)) <|
  n_c (s_callVc (s_callV (pc := 123) (csX5_keep hG) (by decide) okX5_keep nok5 w_689 w_690 w_688 (by decide +kernel)) (gk48 hG)) <|
  n_c (s_iload (pc := 126) (by decide +kernel)) <|
  n_c (s_if_eq (pc := 128) (off := 20) (by decide +kernel) (by decide +kernel)) <|
  n_c (s_aload_n (pc := 131) (k := 3) (by decide +kernel)) <|
  n_c (s_aload_n (pc := 132) (k := 3) (by decide +kernel)) <|
  n_c (s_gIc (s_getI (pc := 133) (ci := 4) (k := 6) (idx := 174) nok4 (by decide) rfl (by decide +kernel) w_247) (gk9 hG)) <|
  n_c (s_iload_n (pc := 136) (k := 2) (by decide +kernel)) <|
  n_c (s_iload (pc := 137) (by decide +kernel)) <|
  n_c (s_callS (pc := 139) (csX4_withBit) (by decide) okX4_withBit w_625 w_658 (by decide +kernel)) <|
  n_c (s_pIc (s_putI (pc := 142) (ci := 4) (k := 6) (idx := 174) nok4 (by decide) rfl rfl (by decide +kernel) w_247) (gk9 hG)) <|
  n_c (s_goto (pc := 145) (off := 17) (by decide +kernel) (by decide +kernel)) <|
  n_c (s_aload_n (pc := 148) (k := 3) (by decide +kernel)) <|
  n_c (s_aload_n (pc := 149) (k := 3) (by decide +kernel)) <|
  n_c (s_gIc (s_getI (pc := 150) (ci := 4) (k := 7) (idx := 177) nok4 (by decide) rfl (by decide +kernel) w_250) (gk9 hG)) <|
  n_c (s_iload_n (pc := 153) (k := 2) (by decide +kernel)) <|
  n_c (s_iload (pc := 154) (by decide +kernel)) <|
  n_c (s_callS (pc := 156) (csX4_withBit) (by decide) okX4_withBit w_625 w_658 (by decide +kernel)) <|
  n_c (s_pIc (s_putI (pc := 159) (ci := 4) (k := 7) (idx := 177) nok4 (by decide) rfl rfl (by decide +kernel) w_250) (gk9 hG)) <|
  n_c (s_iconst (pc := 162) (n := 1) (by decide +kernel) (by decide +kernel)) <|
  n_c (s_zret (pc := 163) rfl (by decide +kernel)) <|
  n_e
def fX11_act_107 (G : nG) (x2 : Int32) (x4 : Int32) (x6 : Int32) (s0 : Int32) (M : nM) : Option (Int32 × nM) :=
  (fX4_hasBit s0 x2 M).bind fun p1 =>
  if ¬ p1.1 = x6 then
    (fX5_keep G p1.2).bind fun p2 =>
    if x4 = 0 then
      (fX4_withBit (p2.2 9 7) x2 x6 p2.2).bind fun p3 =>
      let M4 : nM := n_up p3.2 9 7 p3.1
      some ((1 : Int32), M4)
    else
      (fX4_withBit (p2.2 9 6) x2 x6 p2.2).bind fun p5 =>
      let M6 : nM := n_up p5.2 9 6 p5.1
      some ((1 : Int32), M6)
  else
    some ((0 : Int32), p1.2)
set_option maxRecDepth 200000 in
theorem bX11_act_107 {l : Launch} {w : nW} {G : nG} (hG : n_GOK G) (x2 : Int32) (x4 : Int32) (x6 : Int32) (s0 : Int32) (M : nM) (r : Int32 × nM) (h : fX11_act_107 G x2 x4 x6 s0 M = some r) : n_At l w 2 mX11_act 107 [(0, .ref 1), (2, .int x2), (3, .ref 9), (4, .int x4), (6, .int x6)] [.int s0] (G, M) (dv_i r.1, (G, r.2)) :=
  n_seg (fin := n_fin dv_i G) (K := []) 34 (iX11_act hG) n_ke (by rfl) h
def fX11_act_89 (G : nG) (x2 : Int32) (x4 : Int32) (s0 : Int32) (M : nM) : Option (Int32 × nM) :=
  if x4 = 0 then
    fX11_act_107 G x2 x4 s0 (M 9 7) M
  else
    fX11_act_107 G x2 x4 s0 (M 9 6) M
set_option maxRecDepth 200000 in
theorem bX11_act_89 {l : Launch} {w : nW} {G : nG} (hG : n_GOK G) (x2 : Int32) (x4 : Int32) (s0 : Int32) (M : nM) (r : Int32 × nM) (h : fX11_act_89 G x2 x4 s0 M = some r) : n_At l w 2 mX11_act 89 [(0, .ref 1), (2, .int x2), (3, .ref 9), (4, .int x4)] [.int s0] (G, M) (dv_i r.1, (G, r.2)) :=
  n_seg (fin := n_fin dv_i G) (K := [(107, fun lv st M => n_lC 1 lv 0 (n_lI lv 2 (fun x2 => n_lC 9 lv 3 (n_lI lv 4 (fun x4 => n_lI lv 6 (fun x6 => n_pI st (fun s0 st => n_pE st (fX11_act_107 G x2 x4 x6 s0 M))))))))]) 11 (iX11_act hG) (n_kc (fun lv st M r h => by
      obtain ⟨e0, h1⟩ := n_lC_x h
      obtain ⟨x2, e2, h2⟩ := n_lI_x h1
      obtain ⟨e3, h3⟩ := n_lC_x h2
      obtain ⟨x4, e4, h4⟩ := n_lI_x h3
      obtain ⟨x6, e6, h5⟩ := n_lI_x h4
      obtain ⟨s0, t0, rfl, h6⟩ := n_pI_x h5
      obtain ⟨rfl, h7⟩ := n_pE_x h6
      exact n_sub (n_qc e0 (n_qc e2 (n_qc e3 (n_qc e4 (n_qc e6 n_qe))))) (bX11_act_107 hG x2 x4 x6 s0 M r h7)) n_ke) (by rfl) h
def fX11_act_84 (G : nG) (x2 : Int32) (x4 : Int32) (M : nM) : Option (Int32 × nM) :=
  fX11_act_89 G x2 x4 (1 : Int32) M
set_option maxRecDepth 200000 in
theorem bX11_act_84 {l : Launch} {w : nW} {G : nG} (hG : n_GOK G) (x2 : Int32) (x4 : Int32) (M : nM) (r : Int32 × nM) (h : fX11_act_84 G x2 x4 M = some r) : n_At l w 2 mX11_act 84 [(0, .ref 1), (2, .int x2), (3, .ref 9), (4, .int x4)] [] (G, M) (dv_i r.1, (G, r.2)) :=
  n_seg (fin := n_fin dv_i G) (K := [(89, fun lv st M => n_lC 1 lv 0 (n_lI lv 2 (fun x2 => n_lC 9 lv 3 (n_lI lv 4 (fun x4 => n_pI st (fun s0 st => n_pE st (fX11_act_89 G x2 x4 s0 M)))))))]) 5 (iX11_act hG) (n_kc (fun lv st M r h => by
      obtain ⟨e0, h1⟩ := n_lC_x h
      obtain ⟨x2, e2, h2⟩ := n_lI_x h1
      obtain ⟨e3, h3⟩ := n_lC_x h2
      obtain ⟨x4, e4, h4⟩ := n_lI_x h3
      obtain ⟨s0, t0, rfl, h5⟩ := n_pI_x h4
      obtain ⟨rfl, h6⟩ := n_pE_x h5
      exact n_sub (n_qc e0 (n_qc e2 (n_qc e3 (n_qc e4 n_qe)))) (bX11_act_89 hG x2 x4 s0 M r h6)) n_ke) (by rfl) h
def fX11_act_75 (G : nG) (x1 : Int32) (x2 : Int32) (x4 : Int32) (M : nM) : Option (Int32 × nM) :=
  if x1 = 0 then
    fX11_act_84 G x2 x4 M
  else
    if ¬ x1 = (2 : Int32) then
      fX11_act_89 G x2 x4 (0 : Int32) M
    else
      fX11_act_84 G x2 x4 M
set_option maxRecDepth 200000 in
theorem bX11_act_75 {l : Launch} {w : nW} {G : nG} (hG : n_GOK G) (x1 : Int32) (x2 : Int32) (x4 : Int32) (M : nM) (r : Int32 × nM) (h : fX11_act_75 G x1 x2 x4 M = some r) : n_At l w 2 mX11_act 75 [(0, .ref 1), (1, .int x1), (2, .int x2), (3, .ref 9), (4, .int x4)] [] (G, M) (dv_i r.1, (G, r.2)) :=
  n_seg (fin := n_fin dv_i G) (K := [(84, fun lv st M => n_lC 1 lv 0 (n_lI lv 2 (fun x2 => n_lC 9 lv 3 (n_lI lv 4 (fun x4 => n_pE st (fX11_act_84 G x2 x4 M)))))), (89, fun lv st M => n_lC 1 lv 0 (n_lI lv 2 (fun x2 => n_lC 9 lv 3 (n_lI lv 4 (fun x4 => n_pI st (fun s0 st => n_pE st (fX11_act_89 G x2 x4 s0 M)))))))]) 9 (iX11_act hG) (n_kc (fun lv st M r h => by
      obtain ⟨e0, h1⟩ := n_lC_x h
      obtain ⟨x2, e2, h2⟩ := n_lI_x h1
      obtain ⟨e3, h3⟩ := n_lC_x h2
      obtain ⟨x4, e4, h4⟩ := n_lI_x h3
      obtain ⟨rfl, h5⟩ := n_pE_x h4
      exact n_sub (n_qc e0 (n_qc e2 (n_qc e3 (n_qc e4 n_qe)))) (bX11_act_84 hG x2 x4 M r h5)) (n_kc (fun lv st M r h => by
      obtain ⟨e0, h1⟩ := n_lC_x h
      obtain ⟨x2, e2, h2⟩ := n_lI_x h1
      obtain ⟨e3, h3⟩ := n_lC_x h2
      obtain ⟨x4, e4, h4⟩ := n_lI_x h3
      obtain ⟨s0, t0, rfl, h5⟩ := n_pI_x h4
      obtain ⟨rfl, h6⟩ := n_pE_x h5
      exact n_sub (n_qc e0 (n_qc e2 (n_qc e3 (n_qc e4 n_qe)))) (bX11_act_89 hG x2 x4 s0 M r h6)) n_ke)) (by rfl) h
def fX11_act_57 (G : nG) (x1 : Int32) (x2 : Int32) (x4 : Int32) (x5 : Int32) (M : nM) : Option (Int32 × nM) :=
  if x5 = 0 then
    some ((0 : Int32), M)
  else
    (fX1_hasPlace x2 M).bind fun p1 =>
    if ¬ p1.1 = 0 then
      fX11_act_75 G x1 x2 x4 p1.2
    else
      some ((0 : Int32), p1.2)
set_option maxRecDepth 200000 in
theorem bX11_act_57 {l : Launch} {w : nW} {G : nG} (hG : n_GOK G) (x1 : Int32) (x2 : Int32) (x4 : Int32) (x5 : Int32) (M : nM) (r : Int32 × nM) (h : fX11_act_57 G x1 x2 x4 x5 M = some r) : n_At l w 2 mX11_act 57 [(0, .ref 1), (1, .int x1), (2, .int x2), (3, .ref 9), (4, .int x4), (5, .int x5)] [] (G, M) (dv_i r.1, (G, r.2)) :=
  n_seg (fin := n_fin dv_i G) (K := [(75, fun lv st M => n_lC 1 lv 0 (n_lI lv 1 (fun x1 => n_lI lv 2 (fun x2 => n_lC 9 lv 3 (n_lI lv 4 (fun x4 => n_pE st (fX11_act_75 G x1 x2 x4 M)))))))]) 14 (iX11_act hG) (n_kc (fun lv st M r h => by
      obtain ⟨e0, h1⟩ := n_lC_x h
      obtain ⟨x1, e1, h2⟩ := n_lI_x h1
      obtain ⟨x2, e2, h3⟩ := n_lI_x h2
      obtain ⟨e3, h4⟩ := n_lC_x h3
      obtain ⟨x4, e4, h5⟩ := n_lI_x h4
      obtain ⟨rfl, h6⟩ := n_pE_x h5
      exact n_sub (n_qc e0 (n_qc e1 (n_qc e2 (n_qc e3 (n_qc e4 n_qe))))) (bX11_act_75 hG x1 x2 x4 M r h6)) n_ke) (by rfl) h
def fX11_act_39 (G : nG) (x1 : Int32) (x2 : Int32) (x4 : Int32) (s0 : Int32) (M : nM) : Option (Int32 × nM) :=
  if x4 = 0 then
    fX11_act_57 G x1 x2 x4 s0 M
  else
    (fX1_hasPerson x2 M).bind fun p1 =>
    if ¬ p1.1 = 0 then
      fX11_act_75 G x1 x2 x4 p1.2
    else
      fX11_act_57 G x1 x2 x4 s0 p1.2
set_option maxRecDepth 200000 in
theorem bX11_act_39 {l : Launch} {w : nW} {G : nG} (hG : n_GOK G) (x1 : Int32) (x2 : Int32) (x4 : Int32) (s0 : Int32) (M : nM) (r : Int32 × nM) (h : fX11_act_39 G x1 x2 x4 s0 M = some r) : n_At l w 2 mX11_act 39 [(0, .ref 1), (1, .int x1), (2, .int x2), (3, .ref 9), (4, .int x4)] [.int s0] (G, M) (dv_i r.1, (G, r.2)) :=
  n_seg (fin := n_fin dv_i G) (K := [(57, fun lv st M => n_lC 1 lv 0 (n_lI lv 1 (fun x1 => n_lI lv 2 (fun x2 => n_lC 9 lv 3 (n_lI lv 4 (fun x4 => n_lI lv 5 (fun x5 => n_pE st (fX11_act_57 G x1 x2 x4 x5 M)))))))), (75, fun lv st M => n_lC 1 lv 0 (n_lI lv 1 (fun x1 => n_lI lv 2 (fun x2 => n_lC 9 lv 3 (n_lI lv 4 (fun x4 => n_pE st (fX11_act_75 G x1 x2 x4 M)))))))]) 11 (iX11_act hG) (n_kc (fun lv st M r h => by
      obtain ⟨e0, h1⟩ := n_lC_x h
      obtain ⟨x1, e1, h2⟩ := n_lI_x h1
      obtain ⟨x2, e2, h3⟩ := n_lI_x h2
      obtain ⟨e3, h4⟩ := n_lC_x h3
      obtain ⟨x4, e4, h5⟩ := n_lI_x h4
      obtain ⟨x5, e5, h6⟩ := n_lI_x h5
      obtain ⟨rfl, h7⟩ := n_pE_x h6
      exact n_sub (n_qc e0 (n_qc e1 (n_qc e2 (n_qc e3 (n_qc e4 (n_qc e5 n_qe)))))) (bX11_act_57 hG x1 x2 x4 x5 M r h7)) (n_kc (fun lv st M r h => by
      obtain ⟨e0, h1⟩ := n_lC_x h
      obtain ⟨x1, e1, h2⟩ := n_lI_x h1
      obtain ⟨x2, e2, h3⟩ := n_lI_x h2
      obtain ⟨e3, h4⟩ := n_lC_x h3
      obtain ⟨x4, e4, h5⟩ := n_lI_x h4
      obtain ⟨rfl, h6⟩ := n_pE_x h5
      exact n_sub (n_qc e0 (n_qc e1 (n_qc e2 (n_qc e3 (n_qc e4 n_qe))))) (bX11_act_75 hG x1 x2 x4 M r h6)) n_ke)) (by rfl) h
def fX11_act_34 (G : nG) (x1 : Int32) (x2 : Int32) (x4 : Int32) (M : nM) : Option (Int32 × nM) :=
  fX11_act_39 G x1 x2 x4 (1 : Int32) M
set_option maxRecDepth 200000 in
theorem bX11_act_34 {l : Launch} {w : nW} {G : nG} (hG : n_GOK G) (x1 : Int32) (x2 : Int32) (x4 : Int32) (M : nM) (r : Int32 × nM) (h : fX11_act_34 G x1 x2 x4 M = some r) : n_At l w 2 mX11_act 34 [(0, .ref 1), (1, .int x1), (2, .int x2), (3, .ref 9), (4, .int x4)] [] (G, M) (dv_i r.1, (G, r.2)) :=
  n_seg (fin := n_fin dv_i G) (K := [(39, fun lv st M => n_lC 1 lv 0 (n_lI lv 1 (fun x1 => n_lI lv 2 (fun x2 => n_lC 9 lv 3 (n_lI lv 4 (fun x4 => n_pI st (fun s0 st => n_pE st (fX11_act_39 G x1 x2 x4 s0 M))))))))]) 5 (iX11_act hG) (n_kc (fun lv st M r h => by
      obtain ⟨e0, h1⟩ := n_lC_x h
      obtain ⟨x1, e1, h2⟩ := n_lI_x h1
      obtain ⟨x2, e2, h3⟩ := n_lI_x h2
      obtain ⟨e3, h4⟩ := n_lC_x h3
      obtain ⟨x4, e4, h5⟩ := n_lI_x h4
      obtain ⟨s0, t0, rfl, h6⟩ := n_pI_x h5
      obtain ⟨rfl, h7⟩ := n_pE_x h6
      exact n_sub (n_qc e0 (n_qc e1 (n_qc e2 (n_qc e3 (n_qc e4 n_qe))))) (bX11_act_39 hG x1 x2 x4 s0 M r h7)) n_ke) (by rfl) h
def fX11_act_22 (G : nG) (x1 : Int32) (x2 : Int32) (s0 : Int32) (M : nM) : Option (Int32 × nM) :=
  if x1 = (2 : Int32) then
    fX11_act_34 G x1 x2 s0 M
  else
    if ¬ x1 = (3 : Int32) then
      fX11_act_39 G x1 x2 s0 (0 : Int32) M
    else
      fX11_act_34 G x1 x2 s0 M
set_option maxRecDepth 200000 in
theorem bX11_act_22 {l : Launch} {w : nW} {G : nG} (hG : n_GOK G) (x1 : Int32) (x2 : Int32) (s0 : Int32) (M : nM) (r : Int32 × nM) (h : fX11_act_22 G x1 x2 s0 M = some r) : n_At l w 2 mX11_act 22 [(0, .ref 1), (1, .int x1), (2, .int x2), (3, .ref 9)] [.int s0] (G, M) (dv_i r.1, (G, r.2)) :=
  n_seg (fin := n_fin dv_i G) (K := [(34, fun lv st M => n_lC 1 lv 0 (n_lI lv 1 (fun x1 => n_lI lv 2 (fun x2 => n_lC 9 lv 3 (n_lI lv 4 (fun x4 => n_pE st (fX11_act_34 G x1 x2 x4 M))))))), (39, fun lv st M => n_lC 1 lv 0 (n_lI lv 1 (fun x1 => n_lI lv 2 (fun x2 => n_lC 9 lv 3 (n_lI lv 4 (fun x4 => n_pI st (fun s0 st => n_pE st (fX11_act_39 G x1 x2 x4 s0 M))))))))]) 11 (iX11_act hG) (n_kc (fun lv st M r h => by
      obtain ⟨e0, h1⟩ := n_lC_x h
      obtain ⟨x1, e1, h2⟩ := n_lI_x h1
      obtain ⟨x2, e2, h3⟩ := n_lI_x h2
      obtain ⟨e3, h4⟩ := n_lC_x h3
      obtain ⟨x4, e4, h5⟩ := n_lI_x h4
      obtain ⟨rfl, h6⟩ := n_pE_x h5
      exact n_sub (n_qc e0 (n_qc e1 (n_qc e2 (n_qc e3 (n_qc e4 n_qe))))) (bX11_act_34 hG x1 x2 x4 M r h6)) (n_kc (fun lv st M r h => by
      obtain ⟨e0, h1⟩ := n_lC_x h
      obtain ⟨x1, e1, h2⟩ := n_lI_x h1
      obtain ⟨x2, e2, h3⟩ := n_lI_x h2
      obtain ⟨e3, h4⟩ := n_lC_x h3
      obtain ⟨x4, e4, h5⟩ := n_lI_x h4
      obtain ⟨s0, t0, rfl, h6⟩ := n_pI_x h5
      obtain ⟨rfl, h7⟩ := n_pE_x h6
      exact n_sub (n_qc e0 (n_qc e1 (n_qc e2 (n_qc e3 (n_qc e4 n_qe))))) (bX11_act_39 hG x1 x2 x4 s0 M r h7)) n_ke)) (by rfl) h
def fX11_act_17 (G : nG) (x1 : Int32) (x2 : Int32) (M : nM) : Option (Int32 × nM) :=
  fX11_act_22 G x1 x2 (1 : Int32) M
set_option maxRecDepth 200000 in
theorem bX11_act_17 {l : Launch} {w : nW} {G : nG} (hG : n_GOK G) (x1 : Int32) (x2 : Int32) (M : nM) (r : Int32 × nM) (h : fX11_act_17 G x1 x2 M = some r) : n_At l w 2 mX11_act 17 [(0, .ref 1), (1, .int x1), (2, .int x2), (3, .ref 9)] [] (G, M) (dv_i r.1, (G, r.2)) :=
  n_seg (fin := n_fin dv_i G) (K := [(22, fun lv st M => n_lC 1 lv 0 (n_lI lv 1 (fun x1 => n_lI lv 2 (fun x2 => n_lC 9 lv 3 (n_pI st (fun s0 st => n_pE st (fX11_act_22 G x1 x2 s0 M)))))))]) 5 (iX11_act hG) (n_kc (fun lv st M r h => by
      obtain ⟨e0, h1⟩ := n_lC_x h
      obtain ⟨x1, e1, h2⟩ := n_lI_x h1
      obtain ⟨x2, e2, h3⟩ := n_lI_x h2
      obtain ⟨e3, h4⟩ := n_lC_x h3
      obtain ⟨s0, t0, rfl, h5⟩ := n_pI_x h4
      obtain ⟨rfl, h6⟩ := n_pE_x h5
      exact n_sub (n_qc e0 (n_qc e1 (n_qc e2 (n_qc e3 n_qe)))) (bX11_act_22 hG x1 x2 s0 M r h6)) n_ke) (by rfl) h
def fX11_act (G : nG) (x1 : Int32) (x2 : Int32) (M : nM) : Option (Int32 × nM) :=
  if x1 = 0 then
    fX11_act_17 G x1 x2 M
  else
    if ¬ x1 = (1 : Int32) then
      fX11_act_22 G x1 x2 (0 : Int32) M
    else
      fX11_act_17 G x1 x2 M
set_option maxRecDepth 200000 in
theorem bX11_act_0 {l : Launch} {w : nW} {G : nG} (hG : n_GOK G) (x1 : Int32) (x2 : Int32) (M : nM) (r : Int32 × nM) (h : fX11_act G x1 x2 M = some r) : n_At l w 2 mX11_act 0 [(0, .ref 1), (1, .int x1), (2, .int x2)] [] (G, M) (dv_i r.1, (G, r.2)) :=
  n_seg (fin := n_fin dv_i G) (K := [(17, fun lv st M => n_lC 1 lv 0 (n_lI lv 1 (fun x1 => n_lI lv 2 (fun x2 => n_lC 9 lv 3 (n_pE st (fX11_act_17 G x1 x2 M)))))), (22, fun lv st M => n_lC 1 lv 0 (n_lI lv 1 (fun x1 => n_lI lv 2 (fun x2 => n_lC 9 lv 3 (n_pI st (fun s0 st => n_pE st (fX11_act_22 G x1 x2 s0 M)))))))]) 13 (iX11_act hG) (n_kc (fun lv st M r h => by
      obtain ⟨e0, h1⟩ := n_lC_x h
      obtain ⟨x1, e1, h2⟩ := n_lI_x h1
      obtain ⟨x2, e2, h3⟩ := n_lI_x h2
      obtain ⟨e3, h4⟩ := n_lC_x h3
      obtain ⟨rfl, h5⟩ := n_pE_x h4
      exact n_sub (n_qc e0 (n_qc e1 (n_qc e2 (n_qc e3 n_qe)))) (bX11_act_17 hG x1 x2 M r h5)) (n_kc (fun lv st M r h => by
      obtain ⟨e0, h1⟩ := n_lC_x h
      obtain ⟨x1, e1, h2⟩ := n_lI_x h1
      obtain ⟨x2, e2, h3⟩ := n_lI_x h2
      obtain ⟨e3, h4⟩ := n_lC_x h3
      obtain ⟨s0, t0, rfl, h5⟩ := n_pI_x h4
      obtain ⟨rfl, h6⟩ := n_pE_x h5
      exact n_sub (n_qc e0 (n_qc e1 (n_qc e2 (n_qc e3 n_qe)))) (bX11_act_22 hG x1 x2 s0 M r h6)) n_ke)) (by rfl) h
theorem eX11_act {l : Launch} {w : nW} {G : nG} (hG : n_GOK G) (z1 : Int32) (z2 : Int32) (M : nM) (r : Int32 × nM) (h : fX11_act G z1 z2 M = some r) : n_Met l w 2 mX11_act [.ref 1, .int z1, .int z2] (G, M) (dv_i r.1, (G, r.2)) :=
  n_entry (by decide +kernel) rfl (Nat.le_of_ble_eq_true rfl) (n_sub (lv := [(0, .ref 1), (1, .int z1), (2, .int z2)]) (n_qc rfl (n_qc rfl (n_qc rfl n_qe))) (bX11_act_0 hG z1 z2 M r h))
abbrev hX11_act (G : nG) : nF := fun T as M k => n_pC 1 as (fun as => n_pI as (fun z1 as => n_pI as (fun z2 as => n_pE as ((fX11_act G z1 z2 M).bind fun p => k (dv_i p.1) p.2))))
theorem csX11_act {l : Launch} {w : nW} {G : nG} (hG : n_GOK G) : n_CS l w 2 mX11_act G (hX11_act G) := fun T as M k r h => by
  obtain ⟨t0, rfl, h1⟩ := n_pC_x h
  obtain ⟨z1, t1, rfl, h2⟩ := n_pI_x h1
  obtain ⟨z2, t2, rfl, h3⟩ := n_pI_x h2
  obtain ⟨rfl, hE⟩ := n_pE_x h3
  obtain ⟨p, hp, hk⟩ := Option.bind_eq_some_iff.mp hE
  exact ⟨_, _, eX11_act hG z1 z2 M p hp, hk⟩
/-! ===== SleightHouseModel.act(II)Z ===== -/
def mX12_act : nY := (RX12, yX12_act, cX12_act, 5, some .boolean)
theorem okX12_act : n_MOK mX12_act 2 := ⟨w_1930, w_151, ⟨by decide +kernel, by decide +kernel, by decide +kernel⟩, by decide⟩
abbrev aX12_act (N : Nat) : List (Nat × nO (Int32 × nM)) := [(0, o_aload 0 1), (1, o_push (.int (0 : Int32)) 2), (2, o_pIc 107 0 5), (5, o_aload 0 6), (6, o_iload 1 7), (7, o_push (.int (0 : Int32)) 8), (8, o_push (.int (3 : Int32)) 9), (9, o_callVc 107 3 (hX12_isIn) 12), (12, oi_eq 39 15), (15, o_iload 1 16), (16, o_push (.int (2 : Int32)) 17), (17, oc_ge 31 20), (20, o_aload 0 21), (21, o_iload 2 22), (22, o_callVc 107 1 (hX12_isPerson) 25), (25, oi_ne 41 28), (28, o_goto 39), (31, o_aload 0 32), (32, o_iload 2 33), (33, o_callVc 107 1 (hX12_isPlace) 36), (36, oi_ne 41 39), (39, o_push (.int (0 : Int32)) 40), (40, o_zret), (41, o_iload 1 42), (42, o_push (.int (2 : Int32)) 43), (43, oc_ge 51 46), (46, o_push (.int (76 : Int32)) 48), (48, o_goto 52), (51, o_push (.int (4 : Int32)) 52), (52, o_iload 2 53), (53, o_iadd 54), (54, o_istore 5 3 55), (55, o_iload 1 56), (56, o_push (.int (2 : Int32)) 57), (57, o_irem 58), (58, oi_ne 65 61), (61, o_push (.int (1 : Int32)) 62), (62, o_goto 66), (65, o_push (.int (0 : Int32)) 66), (66, o_istore 5 4 68), (68, o_aload 0 69), (69, o_gRc 107 108 72), (72, o_iload 3 73), (73, o_aldc 108 100 74), (74, o_iload 4 76), (76, oc_ne 81 79), (79, o_push (.int (0 : Int32)) 80), (80, o_zret), (81, o_aload 0 82), (82, o_callVc 107 0 (hX12_keepsAhead N) 85), (85, o_aload 0 86), (86, o_gRc 107 108 89), (89, o_iload 3 90), (90, o_iload 4 92), (92, o_iastc 108 100 93), (93, o_push (.int (1 : Int32)) 94), (94, o_zret)]
set_option maxRecDepth 200000 in
theorem iX12_act {l : Launch} {w : nW} (N : Nat) {G : nG} (hG : n_GOK G) : n_AllS l w 1 mX12_act G (n_fin dv_i G) (aX12_act N) :=
  n_c (s_aload_n (pc := 0) (k := 0) (by decide +kernel)) <|
  n_c (s_iconst (pc := 1) (n := 0) (by decide +kernel) (by decide +kernel)) <|
  n_c (s_pIc (s_putI (pc := 2) (ci := 12) (k := 0) (idx := 146) nok12 (by decide) rfl rfl (by decide +kernel) w_1407) (gk107 hG)) <|
  n_c (s_aload_n (pc := 5) (k := 0) (by decide +kernel)) <|
  n_c (s_iload_n (pc := 6) (k := 1) (by decide +kernel)) <|
  n_c (s_iconst (pc := 7) (n := 0) (by decide +kernel) (by decide +kernel)) <|
  n_c (s_iconst (pc := 8) (n := 3) (by decide +kernel) (by decide +kernel)) <|
  n_c (s_callVc (s_callV (pc := 9) (csX12_isIn) (by decide) okX12_isIn nok12 w_1659 w_46 w_1657 (by decide +kernel)) (gk107 hG)) <|
  n_c (s_if_eq (pc := 12) (off := 27) (by decide +kernel) (by decide +kernel)) <|
  n_c (s_iload_n (pc := 15) (k := 1) (by decide +kernel)) <|
  n_c (s_iconst (pc := 16) (n := 2) (by decide +kernel) (by decide +kernel)) <|
  n_c (s_icmp_ge (pc := 17) (off := 14) (by decide +kernel) (by decide +kernel)) <|
  n_c (s_aload_n (pc := 20) (k := 0) (by decide +kernel)) <|
  n_c (s_iload_n (pc := 21) (k := 2) (by decide +kernel)) <|
  n_c (s_callVc (s_callV (pc := 22) (csX12_isPerson hG) (by decide) okX12_isPerson nok12 w_1683 w_50 w_1681 (by decide +kernel)) (gk107 hG)) <|
  n_c (s_if_ne (pc := 25) (off := 16) (by decide +kernel) (by decide +kernel)) <|
  n_c (s_goto (pc := 28) (off := 11) (by decide +kernel) (by decide +kernel)) <|
  n_c (s_aload_n (pc := 31) (k := 0) (by decide +kernel)) <|
  n_c (s_iload_n (pc := 32) (k := 2) (by decide +kernel)) <|
  n_c (s_callVc (s_callV (pc := 33) (csX12_isPlace) (by decide) okX12_isPlace nok12 w_1663 w_47 w_1661 (by decide +kernel)) (gk107 hG)) <|
  n_c (s_if_ne (pc := 36) (off := 5) (by decide +kernel) (by decide +kernel)) <|
  n_c (s_iconst (pc := 39) (n := 0) (by decide +kernel) (by decide +kernel)) <|
  n_c (s_zret (pc := 40) rfl (by decide +kernel)) <|
  n_c (s_iload_n (pc := 41) (k := 1) (by decide +kernel)) <|
  n_c (s_iconst (pc := 42) (n := 2) (by decide +kernel) (by decide +kernel)) <|
  n_c (s_icmp_ge (pc := 43) (off := 8) (by decide +kernel) (by decide +kernel)) <|
  n_c (s_bipush (pc := 46) (n := 76) (by decide +kernel) (by decide +kernel)) <|
  n_c (s_goto (pc := 48) (off := 4) (by decide +kernel) (by decide +kernel)) <|
  n_c (s_iconst (pc := 51) (n := 4) (by decide +kernel) (by decide +kernel)) <|
  n_c (s_iload_n (pc := 52) (k := 2) (by decide +kernel)) <|
  n_c (s_iadd (pc := 53) (by decide +kernel)) <|
  n_c (s_istore_n (pc := 54) (k := 3) (by decide +kernel)) <|
  n_c (s_iload_n (pc := 55) (k := 1) (by decide +kernel)) <|
  n_c (s_iconst (pc := 56) (n := 2) (by decide +kernel) (by decide +kernel)) <|
  n_c (s_irem (pc := 57) (by decide +kernel)) <|
  n_c (s_if_ne (pc := 58) (off := 7) (by decide +kernel) (by decide +kernel)) <|
  n_c (s_iconst (pc := 61) (n := 1) (by decide +kernel) (by decide +kernel)) <|
  n_c (s_goto (pc := 62) (off := 4) (by decide +kernel) (by decide +kernel)) <|
  n_c (s_iconst (pc := 65) (n := 0) (by decide +kernel) (by decide +kernel)) <|
  n_c (s_istore (pc := 66) (by decide +kernel)) <|
  n_c (s_aload_n (pc := 68) (k := 0) (by decide +kernel)) <|
  n_c (s_gRc (s_getR (pc := 69) (ci := 12) (k := 1) (idx := 7) nok12 (by decide) rfl (by decide +kernel) w_1408) (gk107 hG) (gm107_1 hG)) <|
  n_c (s_iload_n (pc := 72) (k := 3) (by decide +kernel)) <|
  n_c (s_aldc (s_iaload (pc := 73) (by decide +kernel)) (gk108 hG) (gl108 hG)) <|
  n_c (s_iload (pc := 74) (by decide +kernel)) <|
  n_c (s_icmp_ne (pc := 76) (off := 5) (by decide +kernel) (by decide +kernel)) <|
  n_c (s_iconst (pc := 79) (n := 0) (by decide +kernel) (by decide +kernel)) <|
  n_c (s_zret (pc := 80) rfl (by decide +kernel)) <|
  n_c (s_aload_n (pc := 81) (k := 0) (by decide +kernel)) <|
  n_c (s_callVc (s_callV (pc := 82) (csX12_keepsAhead N hG) (by decide) okX12_keepsAhead nok12 w_1859 w_89 w_1857 (by decide +kernel)) (gk107 hG)) <|
  n_c (s_aload_n (pc := 85) (k := 0) (by decide +kernel)) <|
  n_c (s_gRc (s_getR (pc := 86) (ci := 12) (k := 1) (idx := 7) nok12 (by decide) rfl (by decide +kernel) w_1408) (gk107 hG) (gm107_1 hG)) <|
  n_c (s_iload_n (pc := 89) (k := 3) (by decide +kernel)) <|
  n_c (s_iload (pc := 90) (by decide +kernel)) <|
  n_c (s_iastc (s_iastore (pc := 92) (by decide +kernel)) (gk108 hG) (gl108 hG)) <|
  n_c (s_iconst (pc := 93) (n := 1) (by decide +kernel) (by decide +kernel)) <|
  n_c (s_zret (pc := 94) rfl (by decide +kernel)) <|
  n_e
def fX12_act_66 (N : Nat) (x3 : Int32) (s0 : Int32) (M : nM) : Option (Int32 × nM) :=
  n_chk (n_ib 100 x3) <|
  if ¬ (M 108 x3.toNatClampNeg) = s0 then
    (fX12_keepsAhead N M).bind fun p1 =>
    n_chk (n_ib 100 x3) <|
    let M2 : nM := n_up p1.2 108 x3.toNatClampNeg s0
    some ((1 : Int32), M2)
  else
    some ((0 : Int32), M)
set_option maxRecDepth 200000 in
theorem bX12_act_66 {l : Launch} {w : nW} (N : Nat) {G : nG} (hG : n_GOK G) (x3 : Int32) (s0 : Int32) (M : nM) (r : Int32 × nM) (h : fX12_act_66 N x3 s0 M = some r) : n_At l w 1 mX12_act 66 [(0, .ref 107), (3, .int x3)] [.int s0] (G, M) (dv_i r.1, (G, r.2)) :=
  n_seg (fin := n_fin dv_i G) (K := []) 21 (iX12_act N hG) n_ke (by rfl) h
def fX12_act_52 (N : Nat) (x1 : Int32) (x2 : Int32) (s0 : Int32) (M : nM) : Option (Int32 × nM) :=
  let v1 : Int32 := (s0 + x2)
  if (2 : Int32) = 0 then none else
  if ¬ (x1 - x1 / (2 : Int32) * (2 : Int32)) = 0 then
    fX12_act_66 N v1 (0 : Int32) M
  else
    fX12_act_66 N v1 (1 : Int32) M
set_option maxRecDepth 200000 in
theorem bX12_act_52 {l : Launch} {w : nW} (N : Nat) {G : nG} (hG : n_GOK G) (x1 : Int32) (x2 : Int32) (s0 : Int32) (M : nM) (r : Int32 × nM) (h : fX12_act_52 N x1 x2 s0 M = some r) : n_At l w 1 mX12_act 52 [(0, .ref 107), (1, .int x1), (2, .int x2)] [.int s0] (G, M) (dv_i r.1, (G, r.2)) :=
  n_seg (fin := n_fin dv_i G) (K := [(66, fun lv st M => n_lC 107 lv 0 (n_lI lv 3 (fun x3 => n_pI st (fun s0 st => n_pE st (fX12_act_66 N x3 s0 M)))))]) 13 (iX12_act N hG) (n_kc (fun lv st M r h => by
      obtain ⟨e0, h1⟩ := n_lC_x h
      obtain ⟨x3, e3, h2⟩ := n_lI_x h1
      obtain ⟨s0, t0, rfl, h3⟩ := n_pI_x h2
      obtain ⟨rfl, h4⟩ := n_pE_x h3
      exact n_sub (n_qc e0 (n_qc e3 n_qe)) (bX12_act_66 N hG x3 s0 M r h4)) n_ke) (by rfl) h
def fX12_act_41 (N : Nat) (x1 : Int32) (x2 : Int32) (M : nM) : Option (Int32 × nM) :=
  if (2 : Int32) ≤ x1 then
    fX12_act_52 N x1 x2 (4 : Int32) M
  else
    fX12_act_52 N x1 x2 (76 : Int32) M
set_option maxRecDepth 200000 in
theorem bX12_act_41 {l : Launch} {w : nW} (N : Nat) {G : nG} (hG : n_GOK G) (x1 : Int32) (x2 : Int32) (M : nM) (r : Int32 × nM) (h : fX12_act_41 N x1 x2 M = some r) : n_At l w 1 mX12_act 41 [(0, .ref 107), (1, .int x1), (2, .int x2)] [] (G, M) (dv_i r.1, (G, r.2)) :=
  n_seg (fin := n_fin dv_i G) (K := [(52, fun lv st M => n_lC 107 lv 0 (n_lI lv 1 (fun x1 => n_lI lv 2 (fun x2 => n_pI st (fun s0 st => n_pE st (fX12_act_52 N x1 x2 s0 M))))))]) 9 (iX12_act N hG) (n_kc (fun lv st M r h => by
      obtain ⟨e0, h1⟩ := n_lC_x h
      obtain ⟨x1, e1, h2⟩ := n_lI_x h1
      obtain ⟨x2, e2, h3⟩ := n_lI_x h2
      obtain ⟨s0, t0, rfl, h4⟩ := n_pI_x h3
      obtain ⟨rfl, h5⟩ := n_pE_x h4
      exact n_sub (n_qc e0 (n_qc e1 (n_qc e2 n_qe))) (bX12_act_52 N hG x1 x2 s0 M r h5)) n_ke) (by rfl) h
def fX12_act (N : Nat) (x1 : Int32) (x2 : Int32) (M : nM) : Option (Int32 × nM) :=
  let M1 : nM := n_up M 107 0 (0 : Int32)
  (fX12_isIn x1 (0 : Int32) (3 : Int32) M1).bind fun p2 =>
  if p2.1 = 0 then
    some ((0 : Int32), p2.2)
  else
    if (2 : Int32) ≤ x1 then
      (fX12_isPlace x2 p2.2).bind fun p3 =>
      if ¬ p3.1 = 0 then
        fX12_act_41 N x1 x2 p3.2
      else
        some ((0 : Int32), p3.2)
    else
      (fX12_isPerson x2 p2.2).bind fun p4 =>
      if ¬ p4.1 = 0 then
        fX12_act_41 N x1 x2 p4.2
      else
        some ((0 : Int32), p4.2)
set_option maxRecDepth 200000 in
theorem bX12_act_0 {l : Launch} {w : nW} (N : Nat) {G : nG} (hG : n_GOK G) (x1 : Int32) (x2 : Int32) (M : nM) (r : Int32 × nM) (h : fX12_act N x1 x2 M = some r) : n_At l w 1 mX12_act 0 [(0, .ref 107), (1, .int x1), (2, .int x2)] [] (G, M) (dv_i r.1, (G, r.2)) :=
  n_seg (fin := n_fin dv_i G) (K := [(41, fun lv st M => n_lC 107 lv 0 (n_lI lv 1 (fun x1 => n_lI lv 2 (fun x2 => n_pE st (fX12_act_41 N x1 x2 M)))))]) 30 (iX12_act N hG) (n_kc (fun lv st M r h => by
      obtain ⟨e0, h1⟩ := n_lC_x h
      obtain ⟨x1, e1, h2⟩ := n_lI_x h1
      obtain ⟨x2, e2, h3⟩ := n_lI_x h2
      obtain ⟨rfl, h4⟩ := n_pE_x h3
      exact n_sub (n_qc e0 (n_qc e1 (n_qc e2 n_qe))) (bX12_act_41 N hG x1 x2 M r h4)) n_ke) (by rfl) h
theorem eX12_act {l : Launch} {w : nW} (N : Nat) {G : nG} (hG : n_GOK G) (z1 : Int32) (z2 : Int32) (M : nM) (r : Int32 × nM) (h : fX12_act N z1 z2 M = some r) : n_Met l w 1 mX12_act [.ref 107, .int z1, .int z2] (G, M) (dv_i r.1, (G, r.2)) :=
  n_entry (by decide +kernel) rfl (Nat.le_of_ble_eq_true rfl) (n_sub (lv := [(0, .ref 107), (1, .int z1), (2, .int z2)]) (n_qc rfl (n_qc rfl (n_qc rfl n_qe))) (bX12_act_0 N hG z1 z2 M r h))
abbrev hX12_act (N : Nat) : nF := fun T as M k => n_pC 107 as (fun as => n_pI as (fun z1 as => n_pI as (fun z2 as => n_pE as ((fX12_act N z1 z2 M).bind fun p => k (dv_i p.1) p.2))))
theorem csX12_act {l : Launch} {w : nW} (N : Nat) {G : nG} (hG : n_GOK G) : n_CS l w 1 mX12_act G (hX12_act N) := fun T as M k r h => by
  obtain ⟨t0, rfl, h1⟩ := n_pC_x h
  obtain ⟨z1, t1, rfl, h2⟩ := n_pI_x h1
  obtain ⟨z2, t2, rfl, h3⟩ := n_pI_x h2
  obtain ⟨rfl, hE⟩ := n_pE_x h3
  obtain ⟨p, hp, hk⟩ := Option.bind_eq_some_iff.mp hE
  exact ⟨_, _, eX12_act N hG z1 z2 M p hp, hk⟩
/-! ===== SleightHouse$Rows.cell(II)I ===== -/
def mX7_cell : nY := (RX7, yX7_cell, cX7_cell, 3, some .int)
theorem okX7_cell : n_MOK mX7_cell 2 := ⟨w_788, w_142, ⟨by decide +kernel, by decide +kernel, by decide +kernel⟩, by decide⟩
abbrev aX7_cell (G : nG) : List (Nat × nO (Int32 × nM)) := [(0, o_iload 1 1), (1, oi_lt 24 4), (4, o_iload 1 5), (5, o_aload 0 6), (6, o_getI G 7 2 9), (9, oc_ge 24 12), (12, o_iload 2 13), (13, oi_lt 24 16), (16, o_iload 2 17), (17, o_aload 0 18), (18, o_getI G 7 1 21), (21, oc_lt 26 24), (24, o_push (.int (-1 : Int32)) 25), (25, o_iret), (26, o_aload 0 27), (27, o_getR G 7 0 30), (30, o_iload 1 31), (31, o_aload 0 32), (32, o_getI G 7 1 35), (35, o_imul 36), (36, o_iload 2 37), (37, o_iadd 38), (38, o_ald G 14 39), (39, o_iret)]
set_option maxRecDepth 200000 in
theorem iX7_cell {l : Launch} {w : nW} {G : nG} : n_AllS l w 0 mX7_cell G (n_fin dv_i G) (aX7_cell G) :=
  n_c (s_iload_n (pc := 0) (k := 1) (by decide +kernel)) <|
  n_c (s_if_lt (pc := 1) (off := 23) (by decide +kernel) (by decide +kernel)) <|
  n_c (s_iload_n (pc := 4) (k := 1) (by decide +kernel)) <|
  n_c (s_aload_n (pc := 5) (k := 0) (by decide +kernel)) <|
  n_c (s_getI (pc := 6) (ci := 7) (k := 2) (idx := 21) nok7 (by decide) rfl (by decide +kernel) w_302) <|
  n_c (s_icmp_ge (pc := 9) (off := 15) (by decide +kernel) (by decide +kernel)) <|
  n_c (s_iload_n (pc := 12) (k := 2) (by decide +kernel)) <|
  n_c (s_if_lt (pc := 13) (off := 11) (by decide +kernel) (by decide +kernel)) <|
  n_c (s_iload_n (pc := 16) (k := 2) (by decide +kernel)) <|
  n_c (s_aload_n (pc := 17) (k := 0) (by decide +kernel)) <|
  n_c (s_getI (pc := 18) (ci := 7) (k := 1) (idx := 27) nok7 (by decide) rfl (by decide +kernel) w_301) <|
  n_c (s_icmp_lt (pc := 21) (off := 5) (by decide +kernel) (by decide +kernel)) <|
  n_c (s_iconst (pc := 24) (n := -1) (by decide +kernel) (by decide +kernel)) <|
  n_c (s_iret (pc := 25) rfl (by decide +kernel)) <|
  n_c (s_aload_n (pc := 26) (k := 0) (by decide +kernel)) <|
  n_c (s_getR (pc := 27) (ci := 7) (k := 0) (idx := 30) nok7 (by decide) rfl (by decide +kernel) w_300) <|
  n_c (s_iload_n (pc := 30) (k := 1) (by decide +kernel)) <|
  n_c (s_aload_n (pc := 31) (k := 0) (by decide +kernel)) <|
  n_c (s_getI (pc := 32) (ci := 7) (k := 1) (idx := 27) nok7 (by decide) rfl (by decide +kernel) w_301) <|
  n_c (s_imul (pc := 35) (by decide +kernel)) <|
  n_c (s_iload_n (pc := 36) (k := 2) (by decide +kernel)) <|
  n_c (s_iadd (pc := 37) (by decide +kernel)) <|
  n_c (s_iaload (pc := 38) (by decide +kernel)) <|
  n_c (s_iret (pc := 39) rfl (by decide +kernel)) <|
  n_e
def fX7_cell (G : nG) (x0 : Nat) (x1 : Int32) (x2 : Int32) (M : nM) : Option (Int32 × nM) :=
  if x1 < 0 then
    some ((-1 : Int32), M)
  else
    n_chk (Nat.beq (n_kd G x0) 7) <|
    if (M x0 2) ≤ x1 then
      some ((-1 : Int32), M)
    else
      if x2 < 0 then
        some ((-1 : Int32), M)
      else
        n_chk (Nat.beq (n_kd G x0) 7) <|
        if x2 < (M x0 1) then
          n_chk (Nat.beq (n_kd G x0) 7) <|
          n_chk (Nat.beq (n_kd G x0) 7) <|
          n_chk (n_in G 14 (n_mr G x0 0) ((x1 * (M x0 1)) + x2)) <|
          some ((M (n_mr G x0 0) ((x1 * (M x0 1)) + x2).toNatClampNeg), M)
        else
          some ((-1 : Int32), M)
set_option maxRecDepth 200000 in
theorem bX7_cell_0 {l : Launch} {w : nW} {G : nG} (x0 : Nat) (x1 : Int32) (x2 : Int32) (M : nM) (r : Int32 × nM) (h : fX7_cell G x0 x1 x2 M = some r) : n_At l w 0 mX7_cell 0 [(0, .ref x0), (1, .int x1), (2, .int x2)] [] (G, M) (dv_i r.1, (G, r.2)) :=
  n_seg (fin := n_fin dv_i G) (K := []) 33 (iX7_cell) n_ke (by rfl) h
theorem eX7_cell {l : Launch} {w : nW} {G : nG} (z0 : Nat) (z1 : Int32) (z2 : Int32) (M : nM) (r : Int32 × nM) (h : fX7_cell G z0 z1 z2 M = some r) : n_Met l w 0 mX7_cell [.ref z0, .int z1, .int z2] (G, M) (dv_i r.1, (G, r.2)) :=
  n_entry (by decide +kernel) rfl (Nat.le_of_ble_eq_true rfl) (n_sub (lv := [(0, .ref z0), (1, .int z1), (2, .int z2)]) (n_qc rfl (n_qc rfl (n_qc rfl n_qe))) (bX7_cell_0 z0 z1 z2 M r h))
abbrev hX7_cell (G : nG) : nF := fun T as M k => n_pR as (fun z0 as => n_pI as (fun z1 as => n_pI as (fun z2 as => n_pE as ((fX7_cell G z0 z1 z2 M).bind fun p => k (dv_i p.1) p.2))))
theorem csX7_cell {l : Launch} {w : nW} {G : nG} : n_CS l w 0 mX7_cell G (hX7_cell G) := fun T as M k r h => by
  obtain ⟨z0, t0, rfl, h1⟩ := n_pR_x h
  obtain ⟨z1, t1, rfl, h2⟩ := n_pI_x h1
  obtain ⟨z2, t2, rfl, h3⟩ := n_pI_x h2
  obtain ⟨rfl, hE⟩ := n_pE_x h3
  obtain ⟨p, hp, hk⟩ := Option.bind_eq_some_iff.mp hE
  exact ⟨_, _, eX7_cell z0 z1 z2 M p hp, hk⟩
/-! ===== SleightHouse$Doings.keepCustom(LSleightHouse$Moving;III)V ===== -/
def mX0_keepCustom : nY := (RX0, yX0_keepCustom, cX0_keepCustom, 5, none)
theorem okX0_keepCustom : n_MOK mX0_keepCustom 4 := ⟨w_792, w_146, ⟨by decide +kernel, by decide +kernel, by decide +kernel⟩, by decide⟩
abbrev aX0_keepCustom (N : Nat) (G : nG) : List (Nat × nO (Unit × nM)) := [(0, o_iload 2 1), (1, o_sw [((0 : Int32), 32), ((1 : Int32), 32), ((2 : Int32), 56), ((3 : Int32), 56)] 81), (32, o_aload 1 33), (33, o_aload 1 34), (34, o_getI G 4 6 37), (37, o_iload 3 38), (38, o_iload 2 39), (39, oi_ne 46 42), (42, o_push (.int (1 : Int32)) 43), (43, o_goto 47), (46, o_push (.int (0 : Int32)) 47), (47, o_call 3 (hX4_withBit) 50), (50, o_putI G 4 6 53), (53, o_goto 101), (56, o_aload 1 57), (57, o_aload 1 58), (58, o_getI G 4 7 61), (61, o_iload 3 62), (62, o_iload 2 63), (63, o_push (.int (2 : Int32)) 64), (64, oc_ne 71 67), (67, o_push (.int (1 : Int32)) 68), (68, o_goto 72), (71, o_push (.int (0 : Int32)) 72), (72, o_call 3 (hX4_withBit) 75), (75, o_putI G 4 7 78), (78, o_goto 101), (81, o_aload 0 82), (82, o_aload 1 83), (83, o_iload 3 84), (84, o_iload 4 86), (86, o_callVc 45 3 (hX0_canSearch G) 89), (89, oi_eq 101 92), (92, o_aload 0 93), (93, o_aload 1 94), (94, o_iload 3 95), (95, o_iload 4 97), (97, o_callVc 45 3 (hX0_searchPlace N G) 100), (100, o_pop 101), (101, o_vret)]
set_option maxRecDepth 200000 in
theorem iX0_keepCustom {l : Launch} {w : nW} (N : Nat) {G : nG} (hG : n_GOK G) : n_AllS l w 5 mX0_keepCustom G (n_fin dv_v G) (aX0_keepCustom N G) :=
  n_c (s_iload_n (pc := 0) (k := 2) (by decide +kernel)) <|
  n_c (s_tsw (pc := 1) (dflt := 80) (lo := 0) (hi := 3) (offs := #[31, 31, 55, 55]) (len := 31) (by decide +kernel) (by decide +kernel)) <|
  n_c (s_aload_n (pc := 32) (k := 1) (by decide +kernel)) <|
  n_c (s_aload_n (pc := 33) (k := 1) (by decide +kernel)) <|
  n_c (s_getI (pc := 34) (ci := 4) (k := 6) (idx := 139) nok4 (by decide) rfl (by decide +kernel) w_246) <|
  n_c (s_iload_n (pc := 37) (k := 3) (by decide +kernel)) <|
  n_c (s_iload_n (pc := 38) (k := 2) (by decide +kernel)) <|
  n_c (s_if_ne (pc := 39) (off := 7) (by decide +kernel) (by decide +kernel)) <|
  n_c (s_iconst (pc := 42) (n := 1) (by decide +kernel) (by decide +kernel)) <|
  n_c (s_goto (pc := 43) (off := 4) (by decide +kernel) (by decide +kernel)) <|
  n_c (s_iconst (pc := 46) (n := 0) (by decide +kernel) (by decide +kernel)) <|
  n_c (s_callS (pc := 47) (csX4_withBit) (by decide) okX4_withBit w_625 w_704 (by decide +kernel)) <|
  n_c (s_putI (pc := 50) (ci := 4) (k := 6) (idx := 139) nok4 (by decide) rfl rfl (by decide +kernel) w_246) <|
  n_c (s_goto (pc := 53) (off := 48) (by decide +kernel) (by decide +kernel)) <|
  n_c (s_aload_n (pc := 56) (k := 1) (by decide +kernel)) <|
  n_c (s_aload_n (pc := 57) (k := 1) (by decide +kernel)) <|
  n_c (s_getI (pc := 58) (ci := 4) (k := 7) (idx := 89) nok4 (by decide) rfl (by decide +kernel) w_249) <|
  n_c (s_iload_n (pc := 61) (k := 3) (by decide +kernel)) <|
  n_c (s_iload_n (pc := 62) (k := 2) (by decide +kernel)) <|
  n_c (s_iconst (pc := 63) (n := 2) (by decide +kernel) (by decide +kernel)) <|
  n_c (s_icmp_ne (pc := 64) (off := 7) (by decide +kernel) (by decide +kernel)) <|
  n_c (s_iconst (pc := 67) (n := 1) (by decide +kernel) (by decide +kernel)) <|
  n_c (s_goto (pc := 68) (off := 4) (by decide +kernel) (by decide +kernel)) <|
  n_c (s_iconst (pc := 71) (n := 0) (by decide +kernel) (by decide +kernel)) <|
  n_c (s_callS (pc := 72) (csX4_withBit) (by decide) okX4_withBit w_625 w_704 (by decide +kernel)) <|
  n_c (s_putI (pc := 75) (ci := 4) (k := 7) (idx := 89) nok4 (by decide) rfl rfl (by decide +kernel) w_249) <|
  n_c (s_goto (pc := 78) (off := 23) (by decide +kernel) (by decide +kernel)) <|
  n_c (s_aload_n (pc := 81) (k := 0) (by decide +kernel)) <|
  n_c (s_aload_n (pc := 82) (k := 1) (by decide +kernel)) <|
  n_c (s_iload_n (pc := 83) (k := 3) (by decide +kernel)) <|
  n_c (s_iload (pc := 84) (by decide +kernel)) <|
  n_c (s_callVc (s_callV (pc := 86) (csX0_canSearch hG) (by decide) okX0_canSearch nok0 w_765 w_766 w_793 (by decide +kernel)) (gk45 hG)) <|
  n_c (s_if_eq (pc := 89) (off := 12) (by decide +kernel) (by decide +kernel)) <|
  n_c (s_aload_n (pc := 92) (k := 0) (by decide +kernel)) <|
  n_c (s_aload_n (pc := 93) (k := 1) (by decide +kernel)) <|
  n_c (s_iload_n (pc := 94) (k := 3) (by decide +kernel)) <|
  n_c (s_iload (pc := 95) (by decide +kernel)) <|
  n_c (s_callVc (s_callV (pc := 97) (csX0_searchPlace N hG) (by decide) okX0_searchPlace nok0 w_769 w_770 w_794 (by decide +kernel)) (gk45 hG)) <|
  n_c (s_pop (pc := 100) (by decide +kernel)) <|
  n_c (s_vret (pc := 101) rfl (by decide +kernel)) <|
  n_e
def fX0_keepCustom_47 (N : Nat) (G : nG) (s0 : Int32) (s1 : Int32) (s2 : Int32) (s3 : Nat) (M : nM) : Option (Unit × nM) :=
  (fX4_withBit s2 s1 s0 M).bind fun p1 =>
  n_chk (Nat.beq (n_kd G s3) 4) <|
  let M2 : nM := n_up p1.2 s3 6 p1.1
  some ((), M2)
set_option maxRecDepth 200000 in
theorem bX0_keepCustom_47 {l : Launch} {w : nW} (N : Nat) {G : nG} (hG : n_GOK G) (s0 : Int32) (s1 : Int32) (s2 : Int32) (s3 : Nat) (M : nM) (r : Unit × nM) (h : fX0_keepCustom_47 N G s0 s1 s2 s3 M = some r) : n_At l w 5 mX0_keepCustom 47 [] [.int s0, .int s1, .int s2, .ref s3] (G, M) (dv_v r.1, (G, r.2)) :=
  n_seg (fin := n_fin dv_v G) (K := []) 7 (iX0_keepCustom N hG) n_ke (by rfl) h
def fX0_keepCustom_72 (N : Nat) (G : nG) (s0 : Int32) (s1 : Int32) (s2 : Int32) (s3 : Nat) (M : nM) : Option (Unit × nM) :=
  (fX4_withBit s2 s1 s0 M).bind fun p1 =>
  n_chk (Nat.beq (n_kd G s3) 4) <|
  let M2 : nM := n_up p1.2 s3 7 p1.1
  some ((), M2)
set_option maxRecDepth 200000 in
theorem bX0_keepCustom_72 {l : Launch} {w : nW} (N : Nat) {G : nG} (hG : n_GOK G) (s0 : Int32) (s1 : Int32) (s2 : Int32) (s3 : Nat) (M : nM) (r : Unit × nM) (h : fX0_keepCustom_72 N G s0 s1 s2 s3 M = some r) : n_At l w 5 mX0_keepCustom 72 [] [.int s0, .int s1, .int s2, .ref s3] (G, M) (dv_v r.1, (G, r.2)) :=
  n_seg (fin := n_fin dv_v G) (K := []) 7 (iX0_keepCustom N hG) n_ke (by rfl) h
def fX0_keepCustom (N : Nat) (G : nG) (x1 : Nat) (x2 : Int32) (x3 : Int32) (x4 : Int32) (M : nM) : Option (Unit × nM) :=
  if x2 = (0 : Int32) then
    n_chk (Nat.beq (n_kd G x1) 4) <|
    if ¬ x2 = 0 then
      fX0_keepCustom_47 N G (0 : Int32) x3 (M x1 6) x1 M
    else
      fX0_keepCustom_47 N G (1 : Int32) x3 (M x1 6) x1 M
  else
  if x2 = (1 : Int32) then
    n_chk (Nat.beq (n_kd G x1) 4) <|
    if ¬ x2 = 0 then
      fX0_keepCustom_47 N G (0 : Int32) x3 (M x1 6) x1 M
    else
      fX0_keepCustom_47 N G (1 : Int32) x3 (M x1 6) x1 M
  else
  if x2 = (2 : Int32) then
    n_chk (Nat.beq (n_kd G x1) 4) <|
    if ¬ x2 = (2 : Int32) then
      fX0_keepCustom_72 N G (0 : Int32) x3 (M x1 7) x1 M
    else
      fX0_keepCustom_72 N G (1 : Int32) x3 (M x1 7) x1 M
  else
  if x2 = (3 : Int32) then
    n_chk (Nat.beq (n_kd G x1) 4) <|
    if ¬ x2 = (2 : Int32) then
      fX0_keepCustom_72 N G (0 : Int32) x3 (M x1 7) x1 M
    else
      fX0_keepCustom_72 N G (1 : Int32) x3 (M x1 7) x1 M
  else
  (fX0_canSearch G x1 x3 x4 M).bind fun p1 =>
  if p1.1 = 0 then
    some ((), p1.2)
  else
    (fX0_searchPlace N G x1 x3 x4 p1.2).bind fun p2 =>
    some ((), p2.2)
set_option maxRecDepth 200000 in
theorem bX0_keepCustom_0 {l : Launch} {w : nW} (N : Nat) {G : nG} (hG : n_GOK G) (x1 : Nat) (x2 : Int32) (x3 : Int32) (x4 : Int32) (M : nM) (r : Unit × nM) (h : fX0_keepCustom N G x1 x2 x3 x4 M = some r) : n_At l w 5 mX0_keepCustom 0 [(0, .ref 45), (1, .ref x1), (2, .int x2), (3, .int x3), (4, .int x4)] [] (G, M) (dv_v r.1, (G, r.2)) :=
  n_seg (fin := n_fin dv_v G) (K := [(47, fun lv st M => n_pI st (fun s0 st => n_pI st (fun s1 st => n_pI st (fun s2 st => n_pR st (fun s3 st => n_pE st (fX0_keepCustom_47 N G s0 s1 s2 s3 M)))))), (72, fun lv st M => n_pI st (fun s0 st => n_pI st (fun s1 st => n_pI st (fun s2 st => n_pR st (fun s3 st => n_pE st (fX0_keepCustom_72 N G s0 s1 s2 s3 M))))))]) 57 (iX0_keepCustom N hG) (n_kc (fun lv st M r h => by
      obtain ⟨s0, t0, rfl, h1⟩ := n_pI_x h
      obtain ⟨s1, t1, rfl, h2⟩ := n_pI_x h1
      obtain ⟨s2, t2, rfl, h3⟩ := n_pI_x h2
      obtain ⟨s3, t3, rfl, h4⟩ := n_pR_x h3
      obtain ⟨rfl, h5⟩ := n_pE_x h4
      exact n_sub n_qe (bX0_keepCustom_47 N hG s0 s1 s2 s3 M r h5)) (n_kc (fun lv st M r h => by
      obtain ⟨s0, t0, rfl, h1⟩ := n_pI_x h
      obtain ⟨s1, t1, rfl, h2⟩ := n_pI_x h1
      obtain ⟨s2, t2, rfl, h3⟩ := n_pI_x h2
      obtain ⟨s3, t3, rfl, h4⟩ := n_pR_x h3
      obtain ⟨rfl, h5⟩ := n_pE_x h4
      exact n_sub n_qe (bX0_keepCustom_72 N hG s0 s1 s2 s3 M r h5)) n_ke)) (by rfl) h
theorem eX0_keepCustom {l : Launch} {w : nW} (N : Nat) {G : nG} (hG : n_GOK G) (z1 : Nat) (z2 : Int32) (z3 : Int32) (z4 : Int32) (M : nM) (r : Unit × nM) (h : fX0_keepCustom N G z1 z2 z3 z4 M = some r) : n_Met l w 5 mX0_keepCustom [.ref 45, .ref z1, .int z2, .int z3, .int z4] (G, M) (dv_v r.1, (G, r.2)) :=
  n_entry (by decide +kernel) rfl (Nat.le_of_ble_eq_true rfl) (n_sub (lv := [(0, .ref 45), (1, .ref z1), (2, .int z2), (3, .int z3), (4, .int z4)]) (n_qc rfl (n_qc rfl (n_qc rfl (n_qc rfl (n_qc rfl n_qe))))) (bX0_keepCustom_0 N hG z1 z2 z3 z4 M r h))
abbrev hX0_keepCustom (N : Nat) (G : nG) : nF := fun T as M k => n_pC 45 as (fun as => n_pR as (fun z1 as => n_pI as (fun z2 as => n_pI as (fun z3 as => n_pI as (fun z4 as => n_pE as ((fX0_keepCustom N G z1 z2 z3 z4 M).bind fun p => k (dv_v p.1) p.2))))))
theorem csX0_keepCustom {l : Launch} {w : nW} (N : Nat) {G : nG} (hG : n_GOK G) : n_CS l w 5 mX0_keepCustom G (hX0_keepCustom N G) := fun T as M k r h => by
  obtain ⟨t0, rfl, h1⟩ := n_pC_x h
  obtain ⟨z1, t1, rfl, h2⟩ := n_pR_x h1
  obtain ⟨z2, t2, rfl, h3⟩ := n_pI_x h2
  obtain ⟨z3, t3, rfl, h4⟩ := n_pI_x h3
  obtain ⟨z4, t4, rfl, h5⟩ := n_pI_x h4
  obtain ⟨rfl, hE⟩ := n_pE_x h5
  obtain ⟨p, hp, hk⟩ := Option.bind_eq_some_iff.mp hE
  exact ⟨_, _, eX0_keepCustom N hG z1 z2 z3 z4 M p hp, hk⟩
/-! ===== SleightHouse$Doings.serve(LSleightHouse$Moving;III)Z ===== -/
def mX0_serve : nY := (RX0, yX0_serve, cX0_serve, 5, some .boolean)
theorem okX0_serve : n_MOK mX0_serve 4 := ⟨w_798, w_146, ⟨by decide +kernel, by decide +kernel, by decide +kernel⟩, by decide⟩
abbrev aX0_serve (N : Nat) (G : nG) : List (Nat × nO (Int32 × nM)) := [(0, o_aload 0 1), (1, o_aload 1 2), (2, o_iload 2 3), (3, o_iload 3 4), (4, o_iload 4 6), (6, o_callVc 45 4 (hX0_canPut N G) 9), (9, oi_eq 28 12), (12, o_aload 0 13), (13, o_aload 1 14), (14, o_iload 2 15), (15, o_iload 3 16), (16, o_iload 4 18), (18, o_callVc 45 4 (hX0_putDown N G) 21), (21, oi_eq 28 24), (24, o_push (.int (1 : Int32)) 25), (25, o_goto 29), (28, o_push (.int (0 : Int32)) 29), (29, o_zret)]
set_option maxRecDepth 200000 in
theorem iX0_serve {l : Launch} {w : nW} (N : Nat) {G : nG} (hG : n_GOK G) : n_AllS l w 5 mX0_serve G (n_fin dv_i G) (aX0_serve N G) :=
  n_c (s_aload_n (pc := 0) (k := 0) (by decide +kernel)) <|
  n_c (s_aload_n (pc := 1) (k := 1) (by decide +kernel)) <|
  n_c (s_iload_n (pc := 2) (k := 2) (by decide +kernel)) <|
  n_c (s_iload_n (pc := 3) (k := 3) (by decide +kernel)) <|
  n_c (s_iload (pc := 4) (by decide +kernel)) <|
  n_c (s_callVc (s_callV (pc := 6) (csX0_canPut N hG) (by decide) okX0_canPut nok0 w_668 w_669 w_799 (by decide +kernel)) (gk45 hG)) <|
  n_c (s_if_eq (pc := 9) (off := 19) (by decide +kernel) (by decide +kernel)) <|
  n_c (s_aload_n (pc := 12) (k := 0) (by decide +kernel)) <|
  n_c (s_aload_n (pc := 13) (k := 1) (by decide +kernel)) <|
  n_c (s_iload_n (pc := 14) (k := 2) (by decide +kernel)) <|
  n_c (s_iload_n (pc := 15) (k := 3) (by decide +kernel)) <|
  n_c (s_iload (pc := 16) (by decide +kernel)) <|
  n_c (s_callVc (s_callV (pc := 18) (csX0_putDown N hG) (by decide) okX0_putDown nok0 w_701 w_702 w_800 (by decide +kernel)) (gk45 hG)) <|
  n_c (s_if_eq (pc := 21) (off := 7) (by decide +kernel) (by decide +kernel)) <|
  n_c (s_iconst (pc := 24) (n := 1) (by decide +kernel) (by decide +kernel)) <|
  n_c (s_goto (pc := 25) (off := 4) (by decide +kernel) (by decide +kernel)) <|
  n_c (s_iconst (pc := 28) (n := 0) (by decide +kernel) (by decide +kernel)) <|
  n_c (s_zret (pc := 29) rfl (by decide +kernel)) <|
  n_e
def fX0_serve (N : Nat) (G : nG) (x1 : Nat) (x2 : Int32) (x3 : Int32) (x4 : Int32) (M : nM) : Option (Int32 × nM) :=
  (fX0_canPut N G x1 x2 x3 x4 M).bind fun p1 =>
  if p1.1 = 0 then
    some ((0 : Int32), p1.2)
  else
    (fX0_putDown N G x1 x2 x3 x4 p1.2).bind fun p2 =>
    if p2.1 = 0 then
      some ((0 : Int32), p2.2)
    else
      some ((1 : Int32), p2.2)
set_option maxRecDepth 200000 in
theorem bX0_serve_0 {l : Launch} {w : nW} (N : Nat) {G : nG} (hG : n_GOK G) (x1 : Nat) (x2 : Int32) (x3 : Int32) (x4 : Int32) (M : nM) (r : Int32 × nM) (h : fX0_serve N G x1 x2 x3 x4 M = some r) : n_At l w 5 mX0_serve 0 [(0, .ref 45), (1, .ref x1), (2, .int x2), (3, .int x3), (4, .int x4)] [] (G, M) (dv_i r.1, (G, r.2)) :=
  n_seg (fin := n_fin dv_i G) (K := []) 24 (iX0_serve N hG) n_ke (by rfl) h
theorem eX0_serve {l : Launch} {w : nW} (N : Nat) {G : nG} (hG : n_GOK G) (z1 : Nat) (z2 : Int32) (z3 : Int32) (z4 : Int32) (M : nM) (r : Int32 × nM) (h : fX0_serve N G z1 z2 z3 z4 M = some r) : n_Met l w 5 mX0_serve [.ref 45, .ref z1, .int z2, .int z3, .int z4] (G, M) (dv_i r.1, (G, r.2)) :=
  n_entry (by decide +kernel) rfl (Nat.le_of_ble_eq_true rfl) (n_sub (lv := [(0, .ref 45), (1, .ref z1), (2, .int z2), (3, .int z3), (4, .int z4)]) (n_qc rfl (n_qc rfl (n_qc rfl (n_qc rfl (n_qc rfl n_qe))))) (bX0_serve_0 N hG z1 z2 z3 z4 M r h))
abbrev hX0_serve (N : Nat) (G : nG) : nF := fun T as M k => n_pC 45 as (fun as => n_pR as (fun z1 as => n_pI as (fun z2 as => n_pI as (fun z3 as => n_pI as (fun z4 as => n_pE as ((fX0_serve N G z1 z2 z3 z4 M).bind fun p => k (dv_i p.1) p.2))))))
theorem csX0_serve {l : Launch} {w : nW} (N : Nat) {G : nG} (hG : n_GOK G) : n_CS l w 5 mX0_serve G (hX0_serve N G) := fun T as M k r h => by
  obtain ⟨t0, rfl, h1⟩ := n_pC_x h
  obtain ⟨z1, t1, rfl, h2⟩ := n_pR_x h1
  obtain ⟨z2, t2, rfl, h3⟩ := n_pI_x h2
  obtain ⟨z3, t3, rfl, h4⟩ := n_pI_x h3
  obtain ⟨z4, t4, rfl, h5⟩ := n_pI_x h4
  obtain ⟨rfl, hE⟩ := n_pE_x h5
  obtain ⟨p, hp, hk⟩ := Option.bind_eq_some_iff.mp hE
  exact ⟨_, _, eX0_serve N hG z1 z2 z3 z4 M p hp, hk⟩
/-! ===== SleightHouse$Doings.spill(LSleightHouse$Moving;I)V ===== -/
def mX0_spill : nY := (RX0, yX0_spill, cX0_spill, 5, none)
theorem okX0_spill : n_MOK mX0_spill 2 := ⟨w_804, w_146, ⟨by decide +kernel, by decide +kernel, by decide +kernel⟩, by decide⟩
abbrev aX0_spill (N : Nat) (G : nG) : List (Nat × nO (Unit × nM)) := [(0, o_aload 0 1), (1, o_aload 1 2), (2, o_iload 2 3), (3, o_callVc 45 2 (hX0_fullOf N G) 6), (6, o_istore 5 3 7), (7, o_aload 0 8), (8, o_gRc 45 2 11), (11, o_gRc 2 3 14), (14, o_gIc 3 5 17), (17, o_push (.int (1 : Int32)) 18), (18, o_isub 19), (19, o_istore 5 4 21), (21, o_iload 4 23), (23, oi_lt 117 26), (26, o_iload 3 27), (27, o_aload 0 28), (28, o_gRc 45 2 31), (31, o_gRc 2 3 34), (34, o_gRc 3 4 37), (37, o_iload 2 38), (38, o_aldc 4 12 39), (39, oc_le 117 42), (42, o_aload 1 43), (43, o_getR G 4 1 46), (46, o_iload 4 48), (48, o_ald G 14 49), (49, o_iload 2 50), (50, oc_ne 111 53), (53, o_iload 3 54), (54, o_aload 0 55), (55, o_gRc 45 2 58), (58, o_gRc 2 3 61), (61, o_gRc 3 5 64), (64, o_iload 4 66), (66, o_aldc 5 16 67), (67, o_isub 68), (68, o_istore 5 3 69), (69, o_aload 1 70), (70, o_getR G 4 1 73), (73, o_iload 4 75), (75, o_iload 2 76), (76, o_push (.int (1 : Int32)) 77), (77, o_iadd 78), (78, o_push (.int (12 : Int32)) 80), (80, o_irem 81), (81, o_iastore G 82), (82, o_aload 1 83), (83, o_aload 1 84), (84, o_getI G 4 5 87), (87, o_iload 4 89), (89, o_push (.int (1 : Int32)) 90), (90, o_call 3 (hX4_withBit) 93), (93, o_putI G 4 5 96), (96, o_aload 0 97), (97, o_aload 1 98), (98, o_push (.int (4 : Int32)) 99), (99, o_iload 4 101), (101, o_aload 1 102), (102, o_getR G 4 1 105), (105, o_iload 4 107), (107, o_ald G 14 108), (108, o_callVc 45 4 (hX0_note G) 111), (111, o_inc 5 4 (-1 : Int32) 114), (114, o_goto 21), (117, o_vret)]
set_option maxRecDepth 200000 in
theorem iX0_spill {l : Launch} {w : nW} (N : Nat) {G : nG} (hG : n_GOK G) : n_AllS l w 2 mX0_spill G (n_fin dv_v G) (aX0_spill N G) :=
  n_c (s_aload_n (pc := 0) (k := 0) (by decide +kernel)) <|
  n_c (s_aload_n (pc := 1) (k := 1) (by decide +kernel)) <|
  n_c (s_iload_n (pc := 2) (k := 2) (by decide +kernel)) <|
  n_c (s_callVc (s_callV (pc := 3) (csX0_fullOf N hG) (by decide) okX0_fullOf nok0 w_685 w_686 w_684 (by decide +kernel)) (gk45 hG)) <|
  n_c (s_istore_n (pc := 6) (k := 3) (by decide +kernel)) <|
  n_c (s_aload_n (pc := 7) (k := 0) (by decide +kernel)) <|
  n_c (s_gRc (s_getR (pc := 8) (ci := 0) (k := 0) (idx := 20) nok0 (by decide) rfl (by decide +kernel) w_446) (gk45 hG) (gm45_0 hG)) <|
  n_c (s_gRc (s_getR (pc := 11) (ci := 1) (k := 0) (idx := 24) nok1 (by decide) rfl (by decide +kernel) w_404) (gk2 hG) (gm2_0 hG)) <|
  n_c (s_gIc (s_getI (pc := 14) (ci := 8) (k := 5) (idx := 30) nok8 (by decide) rfl (by decide +kernel) w_198) (gk3 hG)) <|
  n_c (s_iconst (pc := 17) (n := 1) (by decide +kernel) (by decide +kernel)) <|
  n_c (s_isub (pc := 18) (by decide +kernel)) <|
  n_c (s_istore (pc := 19) (by decide +kernel)) <|
  n_c (s_iload (pc := 21) (by decide +kernel)) <|
  n_c (s_if_lt (pc := 23) (off := 94) (by decide +kernel) (by decide +kernel)) <|
  n_c (s_iload_n (pc := 26) (k := 3) (by decide +kernel)) <|
  n_c (s_aload_n (pc := 27) (k := 0) (by decide +kernel)) <|
  n_c (s_gRc (s_getR (pc := 28) (ci := 0) (k := 0) (idx := 20) nok0 (by decide) rfl (by decide +kernel) w_446) (gk45 hG) (gm45_0 hG)) <|
  n_c (s_gRc (s_getR (pc := 31) (ci := 1) (k := 0) (idx := 24) nok1 (by decide) rfl (by decide +kernel) w_404) (gk2 hG) (gm2_0 hG)) <|
  n_c (s_gRc (s_getR (pc := 34) (ci := 8) (k := 0) (idx := 150) nok8 (by decide) rfl (by decide +kernel) w_184) (gk3 hG) (gm3_0 hG)) <|
  n_c (s_iload_n (pc := 37) (k := 2) (by decide +kernel)) <|
  n_c (s_aldc (s_iaload (pc := 38) (by decide +kernel)) (gk4 hG) (gl4 hG)) <|
  n_c (s_icmp_le (pc := 39) (off := 78) (by decide +kernel) (by decide +kernel)) <|
  n_c (s_aload_n (pc := 42) (k := 1) (by decide +kernel)) <|
  n_c (s_getR (pc := 43) (ci := 4) (k := 1) (idx := 36) nok4 (by decide) rfl (by decide +kernel) w_231) <|
  n_c (s_iload (pc := 46) (by decide +kernel)) <|
  n_c (s_iaload (pc := 48) (by decide +kernel)) <|
  n_c (s_iload_n (pc := 49) (k := 2) (by decide +kernel)) <|
  n_c (s_icmp_ne (pc := 50) (off := 61) (by decide +kernel) (by decide +kernel)) <|
  n_c (s_iload_n (pc := 53) (k := 3) (by decide +kernel)) <|
  n_c (s_aload_n (pc := 54) (k := 0) (by decide +kernel)) <|
  n_c (s_gRc (s_getR (pc := 55) (ci := 0) (k := 0) (idx := 20) nok0 (by decide) rfl (by decide +kernel) w_446) (gk45 hG) (gm45_0 hG)) <|
  n_c (s_gRc (s_getR (pc := 58) (ci := 1) (k := 0) (idx := 24) nok1 (by decide) rfl (by decide +kernel) w_404) (gk2 hG) (gm2_0 hG)) <|
  n_c (s_gRc (s_getR (pc := 61) (ci := 8) (k := 1) (idx := 41) nok8 (by decide) rfl (by decide +kernel) w_186) (gk3 hG) (gm3_1 hG)) <|
  n_c (s_iload (pc := 64) (by decide +kernel)) <|
  n_c (s_aldc (s_iaload (pc := 66) (by decide +kernel)) (gk5 hG) (gl5 hG)) <|
  n_c (s_isub (pc := 67) (by decide +kernel)) <|
  n_c (s_istore_n (pc := 68) (k := 3) (by decide +kernel)) <|
  n_c (s_aload_n (pc := 69) (k := 1) (by decide +kernel)) <|
  n_c (s_getR (pc := 70) (ci := 4) (k := 1) (idx := 36) nok4 (by decide) rfl (by decide +kernel) w_231) <|
  n_c (s_iload (pc := 73) (by decide +kernel)) <|
  n_c (s_iload_n (pc := 75) (k := 2) (by decide +kernel)) <|
  n_c (s_iconst (pc := 76) (n := 1) (by decide +kernel) (by decide +kernel)) <|
  n_c (s_iadd (pc := 77) (by decide +kernel)) <|
  n_c (s_bipush (pc := 78) (n := 12) (by decide +kernel) (by decide +kernel)) <|
  n_c (s_irem (pc := 80) (by decide +kernel)) <|
  n_c (s_iastore (pc := 81) (by decide +kernel)) <|
  n_c (s_aload_n (pc := 82) (k := 1) (by decide +kernel)) <|
  n_c (s_aload_n (pc := 83) (k := 1) (by decide +kernel)) <|
  n_c (s_getI (pc := 84) (ci := 4) (k := 5) (idx := 98) nok4 (by decide) rfl (by decide +kernel) w_243) <|
  n_c (s_iload (pc := 87) (by decide +kernel)) <|
  n_c (s_iconst (pc := 89) (n := 1) (by decide +kernel) (by decide +kernel)) <|
  n_c (s_callS (pc := 90) (csX4_withBit) (by decide) okX4_withBit w_625 w_704 (by decide +kernel)) <|
  n_c (s_putI (pc := 93) (ci := 4) (k := 5) (idx := 98) nok4 (by decide) rfl rfl (by decide +kernel) w_243) <|
  n_c (s_aload_n (pc := 96) (k := 0) (by decide +kernel)) <|
  n_c (s_aload_n (pc := 97) (k := 1) (by decide +kernel)) <|
  n_c (s_iconst (pc := 98) (n := 4) (by decide +kernel) (by decide +kernel)) <|
  n_c (s_iload (pc := 99) (by decide +kernel)) <|
  n_c (s_aload_n (pc := 101) (k := 1) (by decide +kernel)) <|
  n_c (s_getR (pc := 102) (ci := 4) (k := 1) (idx := 36) nok4 (by decide) rfl (by decide +kernel) w_231) <|
  n_c (s_iload (pc := 105) (by decide +kernel)) <|
  n_c (s_iaload (pc := 107) (by decide +kernel)) <|
  n_c (s_callVc (s_callV (pc := 108) (csX0_note hG) (by decide) okX0_note nok0 w_707 w_3 w_705 (by decide +kernel)) (gk45 hG)) <|
  n_c (s_iinc (pc := 111) (n := -1) (by decide +kernel) (by decide +kernel)) <|
  n_c (s_goto (pc := 114) (off := -93) (by decide +kernel) (by decide +kernel)) <|
  n_c (s_vret (pc := 117) rfl (by decide +kernel)) <|
  n_e
def fX0_spill_21 (N : Nat) (G : nG) : Nat → Nat → Int32 → Int32 → Int32 → nM → Option (Unit × nM)
  | 0, _, _, _, _, _ => none
  | n + 1, x1, x2, x3, x4, M =>
    if x4 < 0 then
      some ((), M)
    else
      n_chk (n_ib 12 x2) <|
      if x3 ≤ (M 4 x2.toNatClampNeg) then
        some ((), M)
      else
        n_chk (Nat.beq (n_kd G x1) 4) <|
        n_chk (n_in G 14 (n_mr G x1 1) x4) <|
        if ¬ (M (n_mr G x1 1) x4.toNatClampNeg) = x2 then
          let v1 : Int32 := (x4 + (-1 : Int32))
          fX0_spill_21 N G n x1 x2 x3 v1 M
        else
          n_chk (n_ib 16 x4) <|
          let v2 : Int32 := (x3 - (M 5 x4.toNatClampNeg))
          n_chk (Nat.beq (n_kd G x1) 4) <|
          if (12 : Int32) = 0 then none else
          n_chk (n_in G 14 (n_mr G x1 1) x4) <|
          let M3 : nM := n_up M (n_mr G x1 1) x4.toNatClampNeg ((x2 + (1 : Int32)) - (x2 + (1 : Int32)) / (12 : Int32) * (12 : Int32))
          n_chk (Nat.beq (n_kd G x1) 4) <|
          (fX4_withBit (M3 x1 5) x4 (1 : Int32) M3).bind fun p4 =>
          n_chk (Nat.beq (n_kd G x1) 4) <|
          let M5 : nM := n_up p4.2 x1 5 p4.1
          n_chk (Nat.beq (n_kd G x1) 4) <|
          n_chk (n_in G 14 (n_mr G x1 1) x4) <|
          (fX0_note G x1 (4 : Int32) x4 (M5 (n_mr G x1 1) x4.toNatClampNeg) M5).bind fun p6 =>
          let v7 : Int32 := (x4 + (-1 : Int32))
          fX0_spill_21 N G n x1 x2 v2 v7 p6.2
set_option maxRecDepth 200000 in
theorem bX0_spill_21 {l : Launch} {w : nW} (N : Nat) {G : nG} (hG : n_GOK G) : ∀ (n : Nat) (x1 : Nat) (x2 : Int32) (x3 : Int32) (x4 : Int32) (M : nM) (r : Unit × nM), fX0_spill_21 N G n x1 x2 x3 x4 M = some r → n_At l w 2 mX0_spill 21 [(0, .ref 45), (1, .ref x1), (2, .int x2), (3, .int x3), (4, .int x4)] [] (G, M) (dv_v r.1, (G, r.2)) := by
  intro n
  induction n with
  | zero => intro x1 x2 x3 x4 M r h; cases (show (none : Option (Unit × nM)) = some r from h)
  | succ n ih =>
    intro x1 x2 x3 x4 M r h
    exact n_seg (fin := n_fin dv_v G) (K := [(21, fun lv st M => n_lC 45 lv 0 (n_lR lv 1 (fun x1 => n_lI lv 2 (fun x2 => n_lI lv 3 (fun x3 => n_lI lv 4 (fun x4 => n_pE st (fX0_spill_21 N G n x1 x2 x3 x4 M)))))))]) 59 (iX0_spill N hG) (n_kc (fun lv st M r h => by
      obtain ⟨e0, h1⟩ := n_lC_x h
      obtain ⟨x1, e1, h2⟩ := n_lR_x h1
      obtain ⟨x2, e2, h3⟩ := n_lI_x h2
      obtain ⟨x3, e3, h4⟩ := n_lI_x h3
      obtain ⟨x4, e4, h5⟩ := n_lI_x h4
      obtain ⟨rfl, h6⟩ := n_pE_x h5
      exact n_sub (n_qc e0 (n_qc e1 (n_qc e2 (n_qc e3 (n_qc e4 n_qe))))) (ih x1 x2 x3 x4 M r h6)) n_ke) (by rfl) h
def fX0_spill (N : Nat) (G : nG) (x1 : Nat) (x2 : Int32) (M : nM) : Option (Unit × nM) :=
  (fX0_fullOf N G x1 x2 M).bind fun p1 =>
  let v2 : Int32 := ((p1.2 3 5) - (1 : Int32))
  fX0_spill_21 N G N x1 x2 p1.1 v2 p1.2
set_option maxRecDepth 200000 in
theorem bX0_spill_0 {l : Launch} {w : nW} (N : Nat) {G : nG} (hG : n_GOK G) (x1 : Nat) (x2 : Int32) (M : nM) (r : Unit × nM) (h : fX0_spill N G x1 x2 M = some r) : n_At l w 2 mX0_spill 0 [(0, .ref 45), (1, .ref x1), (2, .int x2)] [] (G, M) (dv_v r.1, (G, r.2)) :=
  n_seg (fin := n_fin dv_v G) (K := [(21, fun lv st M => n_lC 45 lv 0 (n_lR lv 1 (fun x1 => n_lI lv 2 (fun x2 => n_lI lv 3 (fun x3 => n_lI lv 4 (fun x4 => n_pE st (fX0_spill_21 N G N x1 x2 x3 x4 M)))))))]) 15 (iX0_spill N hG) (n_kc (fun lv st M r h => by
      obtain ⟨e0, h1⟩ := n_lC_x h
      obtain ⟨x1, e1, h2⟩ := n_lR_x h1
      obtain ⟨x2, e2, h3⟩ := n_lI_x h2
      obtain ⟨x3, e3, h4⟩ := n_lI_x h3
      obtain ⟨x4, e4, h5⟩ := n_lI_x h4
      obtain ⟨rfl, h6⟩ := n_pE_x h5
      exact n_sub (n_qc e0 (n_qc e1 (n_qc e2 (n_qc e3 (n_qc e4 n_qe))))) (bX0_spill_21 N hG N x1 x2 x3 x4 M r h6)) n_ke) (by rfl) h
theorem eX0_spill {l : Launch} {w : nW} (N : Nat) {G : nG} (hG : n_GOK G) (z1 : Nat) (z2 : Int32) (M : nM) (r : Unit × nM) (h : fX0_spill N G z1 z2 M = some r) : n_Met l w 2 mX0_spill [.ref 45, .ref z1, .int z2] (G, M) (dv_v r.1, (G, r.2)) :=
  n_entry (by decide +kernel) rfl (Nat.le_of_ble_eq_true rfl) (n_sub (lv := [(0, .ref 45), (1, .ref z1), (2, .int z2)]) (n_qc rfl (n_qc rfl (n_qc rfl n_qe))) (bX0_spill_0 N hG z1 z2 M r h))
abbrev hX0_spill (N : Nat) (G : nG) : nF := fun T as M k => n_pC 45 as (fun as => n_pR as (fun z1 as => n_pI as (fun z2 as => n_pE as ((fX0_spill N G z1 z2 M).bind fun p => k (dv_v p.1) p.2))))
theorem csX0_spill {l : Launch} {w : nW} (N : Nat) {G : nG} (hG : n_GOK G) : n_CS l w 2 mX0_spill G (hX0_spill N G) := fun T as M k r h => by
  obtain ⟨t0, rfl, h1⟩ := n_pC_x h
  obtain ⟨z1, t1, rfl, h2⟩ := n_pR_x h1
  obtain ⟨z2, t2, rfl, h3⟩ := n_pI_x h2
  obtain ⟨rfl, hE⟩ := n_pE_x h3
  obtain ⟨p, hp, hk⟩ := Option.bind_eq_some_iff.mp hE
  exact ⟨_, _, eX0_spill N hG z1 z2 M p hp, hk⟩
/-! ===== SleightHouse$Doings.passHour(LSleightHouse$Moving;)I ===== -/
def mX0_passHour : nY := (RX0, yX0_passHour, cX0_passHour, 4, some .int)
theorem okX0_passHour : n_MOK mX0_passHour 1 := ⟨w_784, w_146, ⟨by decide +kernel, by decide +kernel, by decide +kernel⟩, by decide⟩
abbrev aX0_passHour (N : Nat) (G : nG) : List (Nat × nO (Int32 × nM)) := [(0, o_push (.int (0 : Int32)) 1), (1, o_istore 4 2 2), (2, o_iload 2 3), (3, o_aload 0 4), (4, o_gRc 45 2 7), (7, o_gRc 2 24 10), (10, o_gIc 24 3 13), (13, oc_ge 82 16), (16, o_aload 0 17), (17, o_gRc 45 2 20), (20, o_gRc 2 24 23), (23, o_iload 2 24), (24, o_push (.int (0 : Int32)) 25), (25, o_callVc 24 2 (hX7_cell G) 28), (28, o_aload 1 29), (29, o_getI G 4 9 32), (32, oc_ne 76 35), (35, o_aload 0 36), (36, o_aload 1 37), (37, o_aload 0 38), (38, o_gRc 45 2 41), (41, o_gRc 2 24 44), (44, o_iload 2 45), (45, o_push (.int (1 : Int32)) 46), (46, o_callVc 24 2 (hX7_cell G) 49), (49, o_aload 0 50), (50, o_gRc 45 2 53), (53, o_gRc 2 24 56), (56, o_iload 2 57), (57, o_push (.int (2 : Int32)) 58), (58, o_callVc 24 2 (hX7_cell G) 61), (61, o_aload 0 62), (62, o_gRc 45 2 65), (65, o_gRc 2 24 68), (68, o_iload 2 69), (69, o_push (.int (3 : Int32)) 70), (70, o_callVc 24 2 (hX7_cell G) 73), (73, o_callVc 45 4 (hX0_keepCustom N G) 76), (76, o_inc 4 2 (1 : Int32) 79), (79, o_goto 2), (82, o_push (.int (0 : Int32)) 83), (83, o_istore 4 2 84), (84, o_push (.int (0 : Int32)) 85), (85, o_istore 4 3 86), (86, o_iload 3 87), (87, o_aload 0 88), (88, o_gRc 45 2 91), (91, o_gRc 2 22 94), (94, o_gIc 22 3 97), (97, oc_ge 172 100), (100, o_aload 0 101), (101, o_gRc 45 2 104), (104, o_gRc 2 22 107), (107, o_iload 3 108), (108, o_push (.int (0 : Int32)) 109), (109, o_callVc 22 2 (hX7_cell G) 112), (112, o_aload 1 113), (113, o_getI G 4 9 116), (116, oc_ne 166 119), (119, o_aload 0 120), (120, o_aload 1 121), (121, o_aload 0 122), (122, o_gRc 45 2 125), (125, o_gRc 2 22 128), (128, o_iload 3 129), (129, o_push (.int (1 : Int32)) 130), (130, o_callVc 22 2 (hX7_cell G) 133), (133, o_aload 0 134), (134, o_gRc 45 2 137), (137, o_gRc 2 22 140), (140, o_iload 3 141), (141, o_push (.int (2 : Int32)) 142), (142, o_callVc 22 2 (hX7_cell G) 145), (145, o_aload 0 146), (146, o_gRc 45 2 149), (149, o_gRc 2 22 152), (152, o_iload 3 153), (153, o_push (.int (3 : Int32)) 154), (154, o_callVc 22 2 (hX7_cell G) 157), (157, o_callVc 45 4 (hX0_serve N G) 160), (160, oi_eq 166 163), (163, o_inc 4 2 (1 : Int32) 166), (166, o_inc 4 3 (1 : Int32) 169), (169, o_goto 86), (172, o_push (.int (0 : Int32)) 173), (173, o_istore 4 3 174), (174, o_iload 3 175), (175, o_push (.int (12 : Int32)) 177), (177, oc_ge 192 180), (180, o_aload 0 181), (181, o_aload 1 182), (182, o_iload 3 183), (183, o_callVc 45 2 (hX0_spill N G) 186), (186, o_inc 4 3 (1 : Int32) 189), (189, o_goto 174), (192, o_aload 1 193), (193, o_dup 194), (194, o_getI G 4 9 197), (197, o_push (.int (1 : Int32)) 198), (198, o_iadd 199), (199, o_putI G 4 9 202), (202, o_iload 2 203), (203, o_iret)]
set_option maxRecDepth 200000 in
theorem iX0_passHour {l : Launch} {w : nW} (N : Nat) {G : nG} (hG : n_GOK G) : n_AllS l w 6 mX0_passHour G (n_fin dv_i G) (aX0_passHour N G) :=
  n_c (s_iconst (pc := 0) (n := 0) (by decide +kernel) (by decide +kernel)) <|
  n_c (s_istore_n (pc := 1) (k := 2) (by decide +kernel)) <|
  n_c (s_iload_n (pc := 2) (k := 2) (by decide +kernel)) <|
  n_c (s_aload_n (pc := 3) (k := 0) (by decide +kernel)) <|
  n_c (s_gRc (s_getR (pc := 4) (ci := 0) (k := 0) (idx := 20) nok0 (by decide) rfl (by decide +kernel) w_446) (gk45 hG) (gm45_0 hG)) <|
  n_c (s_gRc (s_getR (pc := 7) (ci := 1) (k := 5) (idx := 174) nok1 (by decide) rfl (by decide +kernel) w_417) (gk2 hG) (gm2_5 hG)) <|
  n_c (s_gIc (s_getI (pc := 10) (ci := 7) (k := 3) (idx := 177) nok7 (by decide) rfl (by decide +kernel) w_307) (gk24 hG)) <|
  n_c (s_icmp_ge (pc := 13) (off := 69) (by decide +kernel) (by decide +kernel)) <|
  n_c (s_aload_n (pc := 16) (k := 0) (by decide +kernel)) <|
  n_c (s_gRc (s_getR (pc := 17) (ci := 0) (k := 0) (idx := 20) nok0 (by decide) rfl (by decide +kernel) w_446) (gk45 hG) (gm45_0 hG)) <|
  n_c (s_gRc (s_getR (pc := 20) (ci := 1) (k := 5) (idx := 174) nok1 (by decide) rfl (by decide +kernel) w_417) (gk2 hG) (gm2_5 hG)) <|
  n_c (s_iload_n (pc := 23) (k := 2) (by decide +kernel)) <|
  n_c (s_iconst (pc := 24) (n := 0) (by decide +kernel) (by decide +kernel)) <|
  n_c (s_callVc (s_callV (pc := 25) (csX7_cell) (by decide) okX7_cell nok7 w_786 w_787 w_785 (by decide +kernel)) (gk24 hG)) <|
  n_c (s_aload_n (pc := 28) (k := 1) (by decide +kernel)) <|
  n_c (s_getI (pc := 29) (ci := 4) (k := 9) (idx := 104) nok4 (by decide) rfl (by decide +kernel) w_255) <|
  n_c (s_icmp_ne (pc := 32) (off := 44) (by decide +kernel) (by decide +kernel)) <|
  n_c (s_aload_n (pc := 35) (k := 0) (by decide +kernel)) <|
  n_c (s_aload_n (pc := 36) (k := 1) (by decide +kernel)) <|
  n_c (s_aload_n (pc := 37) (k := 0) (by decide +kernel)) <|
  n_c (s_gRc (s_getR (pc := 38) (ci := 0) (k := 0) (idx := 20) nok0 (by decide) rfl (by decide +kernel) w_446) (gk45 hG) (gm45_0 hG)) <|
  n_c (s_gRc (s_getR (pc := 41) (ci := 1) (k := 5) (idx := 174) nok1 (by decide) rfl (by decide +kernel) w_417) (gk2 hG) (gm2_5 hG)) <|
  n_c (s_iload_n (pc := 44) (k := 2) (by decide +kernel)) <|
  n_c (s_iconst (pc := 45) (n := 1) (by decide +kernel) (by decide +kernel)) <|
  n_c (s_callVc (s_callV (pc := 46) (csX7_cell) (by decide) okX7_cell nok7 w_786 w_787 w_785 (by decide +kernel)) (gk24 hG)) <|
  n_c (s_aload_n (pc := 49) (k := 0) (by decide +kernel)) <|
  n_c (s_gRc (s_getR (pc := 50) (ci := 0) (k := 0) (idx := 20) nok0 (by decide) rfl (by decide +kernel) w_446) (gk45 hG) (gm45_0 hG)) <|
  n_c (s_gRc (s_getR (pc := 53) (ci := 1) (k := 5) (idx := 174) nok1 (by decide) rfl (by decide +kernel) w_417) (gk2 hG) (gm2_5 hG)) <|
  n_c (s_iload_n (pc := 56) (k := 2) (by decide +kernel)) <|
  n_c (s_iconst (pc := 57) (n := 2) (by decide +kernel) (by decide +kernel)) <|
  n_c (s_callVc (s_callV (pc := 58) (csX7_cell) (by decide) okX7_cell nok7 w_786 w_787 w_785 (by decide +kernel)) (gk24 hG)) <|
  n_c (s_aload_n (pc := 61) (k := 0) (by decide +kernel)) <|
  n_c (s_gRc (s_getR (pc := 62) (ci := 0) (k := 0) (idx := 20) nok0 (by decide) rfl (by decide +kernel) w_446) (gk45 hG) (gm45_0 hG)) <|
  n_c (s_gRc (s_getR (pc := 65) (ci := 1) (k := 5) (idx := 174) nok1 (by decide) rfl (by decide +kernel) w_417) (gk2 hG) (gm2_5 hG)) <|
  n_c (s_iload_n (pc := 68) (k := 2) (by decide +kernel)) <|
  n_c (s_iconst (pc := 69) (n := 3) (by decide +kernel) (by decide +kernel)) <|
  n_c (s_callVc (s_callV (pc := 70) (csX7_cell) (by decide) okX7_cell nok7 w_786 w_787 w_785 (by decide +kernel)) (gk24 hG)) <|
  n_c (s_callVc (s_callV (pc := 73) (csX0_keepCustom N hG) (by decide) okX0_keepCustom nok0 w_791 w_9 w_789 (by decide +kernel)) (gk45 hG)) <|
  n_c (s_iinc (pc := 76) (n := 1) (by decide +kernel) (by decide +kernel)) <|
  n_c (s_goto (pc := 79) (off := -77) (by decide +kernel) (by decide +kernel)) <|
  n_c (s_iconst (pc := 82) (n := 0) (by decide +kernel) (by decide +kernel)) <|
  n_c (s_istore_n (pc := 83) (k := 2) (by decide +kernel)) <|
  n_c (s_iconst (pc := 84) (n := 0) (by decide +kernel) (by decide +kernel)) <|
  n_c (s_istore_n (pc := 85) (k := 3) (by decide +kernel)) <|
  n_c (s_iload_n (pc := 86) (k := 3) (by decide +kernel)) <|
  n_c (s_aload_n (pc := 87) (k := 0) (by decide +kernel)) <|
  n_c (s_gRc (s_getR (pc := 88) (ci := 0) (k := 0) (idx := 20) nok0 (by decide) rfl (by decide +kernel) w_446) (gk45 hG) (gm45_0 hG)) <|
  n_c (s_gRc (s_getR (pc := 91) (ci := 1) (k := 4) (idx := 186) nok1 (by decide) rfl (by decide +kernel) w_414) (gk2 hG) (gm2_4 hG)) <|
  n_c (s_gIc (s_getI (pc := 94) (ci := 7) (k := 3) (idx := 177) nok7 (by decide) rfl (by decide +kernel) w_307) (gk22 hG)) <|
  n_c (s_icmp_ge (pc := 97) (off := 75) (by decide +kernel) (by decide +kernel)) <|
  n_c (s_aload_n (pc := 100) (k := 0) (by decide +kernel)) <|
  n_c (s_gRc (s_getR (pc := 101) (ci := 0) (k := 0) (idx := 20) nok0 (by decide) rfl (by decide +kernel) w_446) (gk45 hG) (gm45_0 hG)) <|
  n_c (s_gRc (s_getR (pc := 104) (ci := 1) (k := 4) (idx := 186) nok1 (by decide) rfl (by decide +kernel) w_414) (gk2 hG) (gm2_4 hG)) <|
  n_c (s_iload_n (pc := 107) (k := 3) (by decide +kernel)) <|
  n_c (s_iconst (pc := 108) (n := 0) (by decide +kernel) (by decide +kernel)) <|
  n_c (s_callVc (s_callV (pc := 109) (csX7_cell) (by decide) okX7_cell nok7 w_786 w_787 w_785 (by decide +kernel)) (gk22 hG)) <|
  n_c (s_aload_n (pc := 112) (k := 1) (by decide +kernel)) <|
  n_c (s_getI (pc := 113) (ci := 4) (k := 9) (idx := 104) nok4 (by decide) rfl (by decide +kernel) w_255) <|
  n_c (s_icmp_ne (pc := 116) (off := 50) (by decide +kernel) (by decide +kernel)) <|
  n_c (s_aload_n (pc := 119) (k := 0) (by decide +kernel)) <|
  n_c (s_aload_n (pc := 120) (k := 1) (by decide +kernel)) <|
  n_c (s_aload_n (pc := 121) (k := 0) (by decide +kernel)) <|
  n_c (s_gRc (s_getR (pc := 122) (ci := 0) (k := 0) (idx := 20) nok0 (by decide) rfl (by decide +kernel) w_446) (gk45 hG) (gm45_0 hG)) <|
  n_c (s_gRc (s_getR (pc := 125) (ci := 1) (k := 4) (idx := 186) nok1 (by decide) rfl (by decide +kernel) w_414) (gk2 hG) (gm2_4 hG)) <|
  n_c (s_iload_n (pc := 128) (k := 3) (by decide +kernel)) <|
  n_c (s_iconst (pc := 129) (n := 1) (by decide +kernel) (by decide +kernel)) <|
  n_c (s_callVc (s_callV (pc := 130) (csX7_cell) (by decide) okX7_cell nok7 w_786 w_787 w_785 (by decide +kernel)) (gk22 hG)) <|
  n_c (s_aload_n (pc := 133) (k := 0) (by decide +kernel)) <|
  n_c (s_gRc (s_getR (pc := 134) (ci := 0) (k := 0) (idx := 20) nok0 (by decide) rfl (by decide +kernel) w_446) (gk45 hG) (gm45_0 hG)) <|
  n_c (s_gRc (s_getR (pc := 137) (ci := 1) (k := 4) (idx := 186) nok1 (by decide) rfl (by decide +kernel) w_414) (gk2 hG) (gm2_4 hG)) <|
  n_c (s_iload_n (pc := 140) (k := 3) (by decide +kernel)) <|
  n_c (s_iconst (pc := 141) (n := 2) (by decide +kernel) (by decide +kernel)) <|
  n_c (s_callVc (s_callV (pc := 142) (csX7_cell) (by decide) okX7_cell nok7 w_786 w_787 w_785 (by decide +kernel)) (gk22 hG)) <|
  n_c (s_aload_n (pc := 145) (k := 0) (by decide +kernel)) <|
  n_c (s_gRc (s_getR (pc := 146) (ci := 0) (k := 0) (idx := 20) nok0 (by decide) rfl (by decide +kernel) w_446) (gk45 hG) (gm45_0 hG)) <|
  n_c (s_gRc (s_getR (pc := 149) (ci := 1) (k := 4) (idx := 186) nok1 (by decide) rfl (by decide +kernel) w_414) (gk2 hG) (gm2_4 hG)) <|
  n_c (s_iload_n (pc := 152) (k := 3) (by decide +kernel)) <|
  n_c (s_iconst (pc := 153) (n := 3) (by decide +kernel) (by decide +kernel)) <|
  n_c (s_callVc (s_callV (pc := 154) (csX7_cell) (by decide) okX7_cell nok7 w_786 w_787 w_785 (by decide +kernel)) (gk22 hG)) <|
  n_c (s_callVc (s_callV (pc := 157) (csX0_serve N hG) (by decide) okX0_serve nok0 w_797 w_10 w_795 (by decide +kernel)) (gk45 hG)) <|
  n_c (s_if_eq (pc := 160) (off := 6) (by decide +kernel) (by decide +kernel)) <|
  n_c (s_iinc (pc := 163) (n := 1) (by decide +kernel) (by decide +kernel)) <|
  n_c (s_iinc (pc := 166) (n := 1) (by decide +kernel) (by decide +kernel)) <|
  n_c (s_goto (pc := 169) (off := -83) (by decide +kernel) (by decide +kernel)) <|
  n_c (s_iconst (pc := 172) (n := 0) (by decide +kernel) (by decide +kernel)) <|
  n_c (s_istore_n (pc := 173) (k := 3) (by decide +kernel)) <|
  n_c (s_iload_n (pc := 174) (k := 3) (by decide +kernel)) <|
  n_c (s_bipush (pc := 175) (n := 12) (by decide +kernel) (by decide +kernel)) <|
  n_c (s_icmp_ge (pc := 177) (off := 15) (by decide +kernel) (by decide +kernel)) <|
  n_c (s_aload_n (pc := 180) (k := 0) (by decide +kernel)) <|
  n_c (s_aload_n (pc := 181) (k := 1) (by decide +kernel)) <|
  n_c (s_iload_n (pc := 182) (k := 3) (by decide +kernel)) <|
  n_c (s_callVc (s_callV (pc := 183) (csX0_spill N hG) (by decide) okX0_spill nok0 w_803 w_11 w_801 (by decide +kernel)) (gk45 hG)) <|
  n_c (s_iinc (pc := 186) (n := 1) (by decide +kernel) (by decide +kernel)) <|
  n_c (s_goto (pc := 189) (off := -15) (by decide +kernel) (by decide +kernel)) <|
  n_c (s_aload_n (pc := 192) (k := 1) (by decide +kernel)) <|
  n_c (s_dup (pc := 193) (by decide +kernel)) <|
  n_c (s_getI (pc := 194) (ci := 4) (k := 9) (idx := 104) nok4 (by decide) rfl (by decide +kernel) w_255) <|
  n_c (s_iconst (pc := 197) (n := 1) (by decide +kernel) (by decide +kernel)) <|
  n_c (s_iadd (pc := 198) (by decide +kernel)) <|
  n_c (s_putI (pc := 199) (ci := 4) (k := 9) (idx := 104) nok4 (by decide) rfl rfl (by decide +kernel) w_255) <|
  n_c (s_iload_n (pc := 202) (k := 2) (by decide +kernel)) <|
  n_c (s_iret (pc := 203) rfl (by decide +kernel)) <|
  n_e
def fX0_passHour_174 (N : Nat) (G : nG) : Nat → Nat → Int32 → Int32 → nM → Option (Int32 × nM)
  | 0, _, _, _, _ => none
  | n + 1, x1, x2, x3, M =>
    if (12 : Int32) ≤ x3 then
      n_chk (Nat.beq (n_kd G x1) 4) <|
      n_chk (Nat.beq (n_kd G x1) 4) <|
      let M1 : nM := n_up M x1 9 ((M x1 9) + (1 : Int32))
      some (x2, M1)
    else
      (fX0_spill N G x1 x3 M).bind fun p2 =>
      let v3 : Int32 := (x3 + (1 : Int32))
      fX0_passHour_174 N G n x1 x2 v3 p2.2
set_option maxRecDepth 200000 in
theorem bX0_passHour_174 {l : Launch} {w : nW} (N : Nat) {G : nG} (hG : n_GOK G) : ∀ (n : Nat) (x1 : Nat) (x2 : Int32) (x3 : Int32) (M : nM) (r : Int32 × nM), fX0_passHour_174 N G n x1 x2 x3 M = some r → n_At l w 6 mX0_passHour 174 [(0, .ref 45), (1, .ref x1), (2, .int x2), (3, .int x3)] [] (G, M) (dv_i r.1, (G, r.2)) := by
  intro n
  induction n with
  | zero => intro x1 x2 x3 M r h; cases (show (none : Option (Int32 × nM)) = some r from h)
  | succ n ih =>
    intro x1 x2 x3 M r h
    exact n_seg (fin := n_fin dv_i G) (K := [(174, fun lv st M => n_lC 45 lv 0 (n_lR lv 1 (fun x1 => n_lI lv 2 (fun x2 => n_lI lv 3 (fun x3 => n_pE st (fX0_passHour_174 N G n x1 x2 x3 M))))))]) 20 (iX0_passHour N hG) (n_kc (fun lv st M r h => by
      obtain ⟨e0, h1⟩ := n_lC_x h
      obtain ⟨x1, e1, h2⟩ := n_lR_x h1
      obtain ⟨x2, e2, h3⟩ := n_lI_x h2
      obtain ⟨x3, e3, h4⟩ := n_lI_x h3
      obtain ⟨rfl, h5⟩ := n_pE_x h4
      exact n_sub (n_qc e0 (n_qc e1 (n_qc e2 (n_qc e3 n_qe)))) (ih x1 x2 x3 M r h5)) n_ke) (by rfl) h
def fX0_passHour_86 (N : Nat) (G : nG) : Nat → Nat → Int32 → Int32 → nM → Option (Int32 × nM)
  | 0, _, _, _, _ => none
  | n + 1, x1, x2, x3, M =>
    if (M 22 3) ≤ x3 then
      fX0_passHour_174 N G N x1 x2 (0 : Int32) M
    else
      (fX7_cell G 22 x3 (0 : Int32) M).bind fun p1 =>
      n_chk (Nat.beq (n_kd G x1) 4) <|
      if ¬ p1.1 = (p1.2 x1 9) then
        let v2 : Int32 := (x3 + (1 : Int32))
        fX0_passHour_86 N G n x1 x2 v2 p1.2
      else
        (fX7_cell G 22 x3 (1 : Int32) p1.2).bind fun p3 =>
        (fX7_cell G 22 x3 (2 : Int32) p3.2).bind fun p4 =>
        (fX7_cell G 22 x3 (3 : Int32) p4.2).bind fun p5 =>
        (fX0_serve N G x1 p3.1 p4.1 p5.1 p5.2).bind fun p6 =>
        if p6.1 = 0 then
          let v7 : Int32 := (x3 + (1 : Int32))
          fX0_passHour_86 N G n x1 x2 v7 p6.2
        else
          let v8 : Int32 := (x2 + (1 : Int32))
          let v9 : Int32 := (x3 + (1 : Int32))
          fX0_passHour_86 N G n x1 v8 v9 p6.2
set_option maxRecDepth 200000 in
theorem bX0_passHour_86 {l : Launch} {w : nW} (N : Nat) {G : nG} (hG : n_GOK G) : ∀ (n : Nat) (x1 : Nat) (x2 : Int32) (x3 : Int32) (M : nM) (r : Int32 × nM), fX0_passHour_86 N G n x1 x2 x3 M = some r → n_At l w 6 mX0_passHour 86 [(0, .ref 45), (1, .ref x1), (2, .int x2), (3, .int x3)] [] (G, M) (dv_i r.1, (G, r.2)) := by
  intro n
  induction n with
  | zero => intro x1 x2 x3 M r h; cases (show (none : Option (Int32 × nM)) = some r from h)
  | succ n ih =>
    intro x1 x2 x3 M r h
    exact n_seg (fin := n_fin dv_i G) (K := [(86, fun lv st M => n_lC 45 lv 0 (n_lR lv 1 (fun x1 => n_lI lv 2 (fun x2 => n_lI lv 3 (fun x3 => n_pE st (fX0_passHour_86 N G n x1 x2 x3 M)))))), (174, fun lv st M => n_lC 45 lv 0 (n_lR lv 1 (fun x1 => n_lI lv 2 (fun x2 => n_lI lv 3 (fun x3 => n_pE st (fX0_passHour_174 N G N x1 x2 x3 M))))))]) 49 (iX0_passHour N hG) (n_kc (fun lv st M r h => by
      obtain ⟨e0, h1⟩ := n_lC_x h
      obtain ⟨x1, e1, h2⟩ := n_lR_x h1
      obtain ⟨x2, e2, h3⟩ := n_lI_x h2
      obtain ⟨x3, e3, h4⟩ := n_lI_x h3
      obtain ⟨rfl, h5⟩ := n_pE_x h4
      exact n_sub (n_qc e0 (n_qc e1 (n_qc e2 (n_qc e3 n_qe)))) (ih x1 x2 x3 M r h5)) (n_kc (fun lv st M r h => by
      obtain ⟨e0, h1⟩ := n_lC_x h
      obtain ⟨x1, e1, h2⟩ := n_lR_x h1
      obtain ⟨x2, e2, h3⟩ := n_lI_x h2
      obtain ⟨x3, e3, h4⟩ := n_lI_x h3
      obtain ⟨rfl, h5⟩ := n_pE_x h4
      exact n_sub (n_qc e0 (n_qc e1 (n_qc e2 (n_qc e3 n_qe)))) (bX0_passHour_174 N hG N x1 x2 x3 M r h5)) n_ke)) (by rfl) h
def fX0_passHour_2 (N : Nat) (G : nG) : Nat → Nat → Int32 → nM → Option (Int32 × nM)
  | 0, _, _, _ => none
  | n + 1, x1, x2, M =>
    if (M 24 3) ≤ x2 then
      fX0_passHour_86 N G N x1 (0 : Int32) (0 : Int32) M
    else
      (fX7_cell G 24 x2 (0 : Int32) M).bind fun p1 =>
      n_chk (Nat.beq (n_kd G x1) 4) <|
      if ¬ p1.1 = (p1.2 x1 9) then
        let v2 : Int32 := (x2 + (1 : Int32))
        fX0_passHour_2 N G n x1 v2 p1.2
      else
        (fX7_cell G 24 x2 (1 : Int32) p1.2).bind fun p3 =>
        (fX7_cell G 24 x2 (2 : Int32) p3.2).bind fun p4 =>
        (fX7_cell G 24 x2 (3 : Int32) p4.2).bind fun p5 =>
        (fX0_keepCustom N G x1 p3.1 p4.1 p5.1 p5.2).bind fun p6 =>
        let v7 : Int32 := (x2 + (1 : Int32))
        fX0_passHour_2 N G n x1 v7 p6.2
set_option maxRecDepth 200000 in
theorem bX0_passHour_2 {l : Launch} {w : nW} (N : Nat) {G : nG} (hG : n_GOK G) : ∀ (n : Nat) (x1 : Nat) (x2 : Int32) (M : nM) (r : Int32 × nM), fX0_passHour_2 N G n x1 x2 M = some r → n_At l w 6 mX0_passHour 2 [(0, .ref 45), (1, .ref x1), (2, .int x2)] [] (G, M) (dv_i r.1, (G, r.2)) := by
  intro n
  induction n with
  | zero => intro x1 x2 M r h; cases (show (none : Option (Int32 × nM)) = some r from h)
  | succ n ih =>
    intro x1 x2 M r h
    exact n_seg (fin := n_fin dv_i G) (K := [(2, fun lv st M => n_lC 45 lv 0 (n_lR lv 1 (fun x1 => n_lI lv 2 (fun x2 => n_pE st (fX0_passHour_2 N G n x1 x2 M))))), (86, fun lv st M => n_lC 45 lv 0 (n_lR lv 1 (fun x1 => n_lI lv 2 (fun x2 => n_lI lv 3 (fun x3 => n_pE st (fX0_passHour_86 N G N x1 x2 x3 M))))))]) 47 (iX0_passHour N hG) (n_kc (fun lv st M r h => by
      obtain ⟨e0, h1⟩ := n_lC_x h
      obtain ⟨x1, e1, h2⟩ := n_lR_x h1
      obtain ⟨x2, e2, h3⟩ := n_lI_x h2
      obtain ⟨rfl, h4⟩ := n_pE_x h3
      exact n_sub (n_qc e0 (n_qc e1 (n_qc e2 n_qe))) (ih x1 x2 M r h4)) (n_kc (fun lv st M r h => by
      obtain ⟨e0, h1⟩ := n_lC_x h
      obtain ⟨x1, e1, h2⟩ := n_lR_x h1
      obtain ⟨x2, e2, h3⟩ := n_lI_x h2
      obtain ⟨x3, e3, h4⟩ := n_lI_x h3
      obtain ⟨rfl, h5⟩ := n_pE_x h4
      exact n_sub (n_qc e0 (n_qc e1 (n_qc e2 (n_qc e3 n_qe)))) (bX0_passHour_86 N hG N x1 x2 x3 M r h5)) n_ke)) (by rfl) h
def fX0_passHour (N : Nat) (G : nG) (x1 : Nat) (M : nM) : Option (Int32 × nM) :=
  fX0_passHour_2 N G N x1 (0 : Int32) M
set_option maxRecDepth 200000 in
theorem bX0_passHour_0 {l : Launch} {w : nW} (N : Nat) {G : nG} (hG : n_GOK G) (x1 : Nat) (M : nM) (r : Int32 × nM) (h : fX0_passHour N G x1 M = some r) : n_At l w 6 mX0_passHour 0 [(0, .ref 45), (1, .ref x1)] [] (G, M) (dv_i r.1, (G, r.2)) :=
  n_seg (fin := n_fin dv_i G) (K := [(2, fun lv st M => n_lC 45 lv 0 (n_lR lv 1 (fun x1 => n_lI lv 2 (fun x2 => n_pE st (fX0_passHour_2 N G N x1 x2 M)))))]) 5 (iX0_passHour N hG) (n_kc (fun lv st M r h => by
      obtain ⟨e0, h1⟩ := n_lC_x h
      obtain ⟨x1, e1, h2⟩ := n_lR_x h1
      obtain ⟨x2, e2, h3⟩ := n_lI_x h2
      obtain ⟨rfl, h4⟩ := n_pE_x h3
      exact n_sub (n_qc e0 (n_qc e1 (n_qc e2 n_qe))) (bX0_passHour_2 N hG N x1 x2 M r h4)) n_ke) (by rfl) h
theorem eX0_passHour {l : Launch} {w : nW} (N : Nat) {G : nG} (hG : n_GOK G) (z1 : Nat) (M : nM) (r : Int32 × nM) (h : fX0_passHour N G z1 M = some r) : n_Met l w 6 mX0_passHour [.ref 45, .ref z1] (G, M) (dv_i r.1, (G, r.2)) :=
  n_entry (by decide +kernel) rfl (Nat.le_of_ble_eq_true rfl) (n_sub (lv := [(0, .ref 45), (1, .ref z1)]) (n_qc rfl (n_qc rfl n_qe)) (bX0_passHour_0 N hG z1 M r h))
abbrev hX0_passHour (N : Nat) (G : nG) : nF := fun T as M k => n_pC 45 as (fun as => n_pR as (fun z1 as => n_pE as ((fX0_passHour N G z1 M).bind fun p => k (dv_i p.1) p.2)))
theorem csX0_passHour {l : Launch} {w : nW} (N : Nat) {G : nG} (hG : n_GOK G) : n_CS l w 6 mX0_passHour G (hX0_passHour N G) := fun T as M k r h => by
  obtain ⟨t0, rfl, h1⟩ := n_pC_x h
  obtain ⟨z1, t1, rfl, h2⟩ := n_pR_x h1
  obtain ⟨rfl, hE⟩ := n_pE_x h2
  obtain ⟨p, hp, hk⟩ := Option.bind_eq_some_iff.mp hE
  exact ⟨_, _, eX0_passHour N hG z1 M p hp, hk⟩
/-! ===== SleightHouse.hours(I)I ===== -/
def mX11_hours : nY := (RX11, yX11_hours, cX11_hours, 4, some .int)
theorem okX11_hours : n_MOK mX11_hours 1 := ⟨w_780, w_137, ⟨by decide +kernel, by decide +kernel, by decide +kernel⟩, by decide⟩
abbrev aX11_hours (N : Nat) (G : nG) : List (Nat × nO (Int32 × nM)) := [(0, o_iload 1 1), (1, o_push (.int (1 : Int32)) 2), (2, o_push (.int (60 : Int32)) 4), (4, o_call 3 (hX11_within) 7), (7, oi_eq 28 10), (10, o_aload 0 11), (11, o_gRc 1 2 14), (14, o_gRc 2 9 17), (17, o_gIc 9 9 20), (20, o_iload 1 21), (21, o_iadd 22), (22, o_push (.int (9999 : Int32)) 25), (25, oc_le 30 28), (28, o_push (.int (-1 : Int32)) 29), (29, o_iret), (30, o_push (.int (0 : Int32)) 31), (31, o_istore 4 2 32), (32, o_push (.int (0 : Int32)) 33), (33, o_istore 4 3 34), (34, o_iload 3 35), (35, o_iload 1 36), (36, oc_ge 76 39), (39, o_aload 0 40), (40, o_gRc 1 48 43), (43, o_aload 0 44), (44, o_gRc 1 2 47), (47, o_gRc 2 9 50), (50, o_callVc 48 1 (hX5_keep G) 53), (53, o_iload 2 54), (54, o_aload 0 55), (55, o_gRc 1 45 58), (58, o_aload 0 59), (59, o_gRc 1 2 62), (62, o_gRc 2 9 65), (65, o_callVc 45 1 (hX0_passHour N G) 68), (68, o_iadd 69), (69, o_istore 4 2 70), (70, o_inc 4 3 (1 : Int32) 73), (73, o_goto 34), (76, o_iload 2 77), (77, o_iret)]
set_option maxRecDepth 200000 in
theorem iX11_hours {l : Launch} {w : nW} (N : Nat) {G : nG} (hG : n_GOK G) : n_AllS l w 7 mX11_hours G (n_fin dv_i G) (aX11_hours N G) :=
  n_c (s_iload_n (pc := 0) (k := 1) (by decide +kernel)) <|
  n_c (s_iconst (pc := 1) (n := 1) (by decide +kernel) (by decide +kernel)) <|
  n_c (s_bipush (pc := 2) (n := 60) (by decide +kernel) (by decide +kernel)) <|
  n_c (s_callS (pc := 4) (csX11_within) (by decide) okX11_within w_610 w_609 (by decide +kernel)) <|
  n_c (s_if_eq (pc := 7) (off := 21) (by decide +kernel) (by decide +kernel)) <|
  n_c (s_aload_n (pc := 10) (k := 0) (by decide +kernel)) <|
  n_c (s_gRc (s_getR (pc := 11) (ci := 11) (k := 0) (idx := 10) nok11 (by decide) rfl (by decide +kernel) w_572) (gk1 hG) (gm1_0 hG)) <|
  n_c (s_gRc (s_getR (pc := 14) (ci := 1) (k := 1) (idx := 77) nok1 (by decide) rfl (by decide +kernel) w_406) (gk2 hG) (gm2_1 hG)) <|
  n_c (s_gIc (s_getI (pc := 17) (ci := 4) (k := 9) (idx := 183) nok4 (by decide) rfl (by decide +kernel) w_256) (gk9 hG)) <|
  n_c (s_iload_n (pc := 20) (k := 1) (by decide +kernel)) <|
  n_c (s_iadd (pc := 21) (by decide +kernel)) <|
  n_c (s_sipush (pc := 22) (n := 9999) (by decide +kernel) (by decide +kernel)) <|
  n_c (s_icmp_le (pc := 25) (off := 5) (by decide +kernel) (by decide +kernel)) <|
  n_c (s_iconst (pc := 28) (n := -1) (by decide +kernel) (by decide +kernel)) <|
  n_c (s_iret (pc := 29) rfl (by decide +kernel)) <|
  n_c (s_iconst (pc := 30) (n := 0) (by decide +kernel) (by decide +kernel)) <|
  n_c (s_istore_n (pc := 31) (k := 2) (by decide +kernel)) <|
  n_c (s_iconst (pc := 32) (n := 0) (by decide +kernel) (by decide +kernel)) <|
  n_c (s_istore_n (pc := 33) (k := 3) (by decide +kernel)) <|
  n_c (s_iload_n (pc := 34) (k := 3) (by decide +kernel)) <|
  n_c (s_iload_n (pc := 35) (k := 1) (by decide +kernel)) <|
  n_c (s_icmp_ge (pc := 36) (off := 40) (by decide +kernel) (by decide +kernel)) <|
  n_c (s_aload_n (pc := 39) (k := 0) (by decide +kernel)) <|
  n_c (s_gRc (s_getR (pc := 40) (ci := 11) (k := 2) (idx := 28) nok11 (by decide) rfl (by decide +kernel) w_574) (gk1 hG) (gm1_2 hG)) <|
  n_c (s_aload_n (pc := 43) (k := 0) (by decide +kernel)) <|
  n_c (s_gRc (s_getR (pc := 44) (ci := 11) (k := 0) (idx := 10) nok11 (by decide) rfl (by decide +kernel) w_572) (gk1 hG) (gm1_0 hG)) <|
  n_c (s_gRc (s_getR (pc := 47) (ci := 1) (k := 1) (idx := 77) nok1 (by decide) rfl (by decide +kernel) w_406) (gk2 hG) (gm2_1 hG)) <|
  n_c (s_callVc (s_callV (pc := 50) (csX5_keep hG) (by decide) okX5_keep nok5 w_689 w_690 w_688 (by decide +kernel)) (gk48 hG)) <|
  n_c (s_iload_n (pc := 53) (k := 2) (by decide +kernel)) <|
  n_c (s_aload_n (pc := 54) (k := 0) (by decide +kernel)) <|
  n_c (s_gRc (s_getR (pc := 55) (ci := 11) (k := 1) (idx := 21) nok11 (by decide) rfl (by decide +kernel) w_573) (gk1 hG) (gm1_1 hG)) <|
  n_c (s_aload_n (pc := 58) (k := 0) (by decide +kernel)) <|
  n_c (s_gRc (s_getR (pc := 59) (ci := 11) (k := 0) (idx := 10) nok11 (by decide) rfl (by decide +kernel) w_572) (gk1 hG) (gm1_0 hG)) <|
  n_c (s_gRc (s_getR (pc := 62) (ci := 1) (k := 1) (idx := 77) nok1 (by decide) rfl (by decide +kernel) w_406) (gk2 hG) (gm2_1 hG)) <|
  n_c (s_callVc (s_callV (pc := 65) (csX0_passHour N hG) (by decide) okX0_passHour nok0 w_782 w_783 w_781 (by decide +kernel)) (gk45 hG)) <|
  n_c (s_iadd (pc := 68) (by decide +kernel)) <|
  n_c (s_istore_n (pc := 69) (k := 2) (by decide +kernel)) <|
  n_c (s_iinc (pc := 70) (n := 1) (by decide +kernel) (by decide +kernel)) <|
  n_c (s_goto (pc := 73) (off := -39) (by decide +kernel) (by decide +kernel)) <|
  n_c (s_iload_n (pc := 76) (k := 2) (by decide +kernel)) <|
  n_c (s_iret (pc := 77) rfl (by decide +kernel)) <|
  n_e
def fX11_hours_34 (N : Nat) (G : nG) : Nat → Int32 → Int32 → Int32 → nM → Option (Int32 × nM)
  | 0, _, _, _, _ => none
  | n + 1, x1, x2, x3, M =>
    if x1 ≤ x3 then
      some (x2, M)
    else
      (fX5_keep G M).bind fun p1 =>
      (fX0_passHour N G 9 p1.2).bind fun p2 =>
      let v3 : Int32 := (x2 + p2.1)
      let v4 : Int32 := (x3 + (1 : Int32))
      fX11_hours_34 N G n x1 v3 v4 p2.2
set_option maxRecDepth 200000 in
theorem bX11_hours_34 {l : Launch} {w : nW} (N : Nat) {G : nG} (hG : n_GOK G) : ∀ (n : Nat) (x1 : Int32) (x2 : Int32) (x3 : Int32) (M : nM) (r : Int32 × nM), fX11_hours_34 N G n x1 x2 x3 M = some r → n_At l w 7 mX11_hours 34 [(0, .ref 1), (1, .int x1), (2, .int x2), (3, .int x3)] [] (G, M) (dv_i r.1, (G, r.2)) := by
  intro n
  induction n with
  | zero => intro x1 x2 x3 M r h; cases (show (none : Option (Int32 × nM)) = some r from h)
  | succ n ih =>
    intro x1 x2 x3 M r h
    exact n_seg (fin := n_fin dv_i G) (K := [(34, fun lv st M => n_lC 1 lv 0 (n_lI lv 1 (fun x1 => n_lI lv 2 (fun x2 => n_lI lv 3 (fun x3 => n_pE st (fX11_hours_34 N G n x1 x2 x3 M))))))]) 25 (iX11_hours N hG) (n_kc (fun lv st M r h => by
      obtain ⟨e0, h1⟩ := n_lC_x h
      obtain ⟨x1, e1, h2⟩ := n_lI_x h1
      obtain ⟨x2, e2, h3⟩ := n_lI_x h2
      obtain ⟨x3, e3, h4⟩ := n_lI_x h3
      obtain ⟨rfl, h5⟩ := n_pE_x h4
      exact n_sub (n_qc e0 (n_qc e1 (n_qc e2 (n_qc e3 n_qe)))) (ih x1 x2 x3 M r h5)) n_ke) (by rfl) h
def fX11_hours (N : Nat) (G : nG) (x1 : Int32) (M : nM) : Option (Int32 × nM) :=
  (fX11_within x1 (1 : Int32) (60 : Int32) M).bind fun p1 =>
  if p1.1 = 0 then
    some ((-1 : Int32), p1.2)
  else
    if ((p1.2 9 9) + x1) ≤ (9999 : Int32) then
      fX11_hours_34 N G N x1 (0 : Int32) (0 : Int32) p1.2
    else
      some ((-1 : Int32), p1.2)
set_option maxRecDepth 200000 in
theorem bX11_hours_0 {l : Launch} {w : nW} (N : Nat) {G : nG} (hG : n_GOK G) (x1 : Int32) (M : nM) (r : Int32 × nM) (h : fX11_hours N G x1 M = some r) : n_At l w 7 mX11_hours 0 [(0, .ref 1), (1, .int x1)] [] (G, M) (dv_i r.1, (G, r.2)) :=
  n_seg (fin := n_fin dv_i G) (K := [(34, fun lv st M => n_lC 1 lv 0 (n_lI lv 1 (fun x1 => n_lI lv 2 (fun x2 => n_lI lv 3 (fun x3 => n_pE st (fX11_hours_34 N G N x1 x2 x3 M))))))]) 24 (iX11_hours N hG) (n_kc (fun lv st M r h => by
      obtain ⟨e0, h1⟩ := n_lC_x h
      obtain ⟨x1, e1, h2⟩ := n_lI_x h1
      obtain ⟨x2, e2, h3⟩ := n_lI_x h2
      obtain ⟨x3, e3, h4⟩ := n_lI_x h3
      obtain ⟨rfl, h5⟩ := n_pE_x h4
      exact n_sub (n_qc e0 (n_qc e1 (n_qc e2 (n_qc e3 n_qe)))) (bX11_hours_34 N hG N x1 x2 x3 M r h5)) n_ke) (by rfl) h
theorem eX11_hours {l : Launch} {w : nW} (N : Nat) {G : nG} (hG : n_GOK G) (z1 : Int32) (M : nM) (r : Int32 × nM) (h : fX11_hours N G z1 M = some r) : n_Met l w 7 mX11_hours [.ref 1, .int z1] (G, M) (dv_i r.1, (G, r.2)) :=
  n_entry (by decide +kernel) rfl (Nat.le_of_ble_eq_true rfl) (n_sub (lv := [(0, .ref 1), (1, .int z1)]) (n_qc rfl (n_qc rfl n_qe)) (bX11_hours_0 N hG z1 M r h))
abbrev hX11_hours (N : Nat) (G : nG) : nF := fun T as M k => n_pC 1 as (fun as => n_pI as (fun z1 as => n_pE as ((fX11_hours N G z1 M).bind fun p => k (dv_i p.1) p.2)))
theorem csX11_hours {l : Launch} {w : nW} (N : Nat) {G : nG} (hG : n_GOK G) : n_CS l w 7 mX11_hours G (hX11_hours N G) := fun T as M k r h => by
  obtain ⟨t0, rfl, h1⟩ := n_pC_x h
  obtain ⟨z1, t1, rfl, h2⟩ := n_pI_x h1
  obtain ⟨rfl, hE⟩ := n_pE_x h2
  obtain ⟨p, hp, hk⟩ := Option.bind_eq_some_iff.mp hE
  exact ⟨_, _, eX11_hours N hG z1 M p hp, hk⟩
/-! ===== SleightHouseModel.does(I)V ===== -/
def mX12_does : nY := (RX12, yX12_does, cX12_does, 4, none)
theorem okX12_does : n_MOK mX12_does 1 := ⟨w_1942, w_151, ⟨by decide +kernel, by decide +kernel, by decide +kernel⟩, by decide⟩
abbrev aX12_does (N : Nat) : List (Nat × nO (Unit × nM)) := [(0, o_aload 0 1), (1, o_gRc 107 128 4), (4, o_iload 1 5), (5, o_push (.int (1 : Int32)) 6), (6, o_iadd 7), (7, o_aldc 128 128 8), (8, o_istore 4 2 9), (9, o_aload 0 10), (10, o_gRc 107 128 13), (13, o_iload 1 14), (14, o_push (.int (2 : Int32)) 15), (15, o_iadd 16), (16, o_aldc 128 128 17), (17, o_istore 4 3 18), (18, o_iload 2 19), (19, oi_eq 27 22), (22, o_iload 2 23), (23, o_push (.int (1 : Int32)) 24), (24, oc_ne 45 27), (27, o_aload 0 28), (28, o_gRc 107 108 31), (31, o_push (.int (76 : Int32)) 33), (33, o_iload 3 34), (34, o_iadd 35), (35, o_iload 2 36), (36, oi_ne 43 39), (39, o_push (.int (1 : Int32)) 40), (40, o_goto 44), (43, o_push (.int (0 : Int32)) 44), (44, o_iastc 108 100 45), (45, o_iload 2 46), (46, o_push (.int (2 : Int32)) 47), (47, oc_eq 55 50), (50, o_iload 2 51), (51, o_push (.int (3 : Int32)) 52), (52, oc_ne 73 55), (55, o_aload 0 56), (56, o_gRc 107 108 59), (59, o_push (.int (4 : Int32)) 60), (60, o_iload 3 61), (61, o_iadd 62), (62, o_iload 2 63), (63, o_push (.int (2 : Int32)) 64), (64, oc_ne 71 67), (67, o_push (.int (1 : Int32)) 68), (68, o_goto 72), (71, o_push (.int (0 : Int32)) 72), (72, o_iastc 108 100 73), (73, o_iload 2 74), (74, o_push (.int (4 : Int32)) 75), (75, oc_ne 104 78), (78, o_aload 0 79), (79, o_gRc 107 108 82), (82, o_push (.int (76 : Int32)) 84), (84, o_iload 3 85), (85, o_iadd 86), (86, o_aldc 108 100 87), (87, oi_ne 104 90), (90, o_aload 0 91), (91, o_iload 3 92), (92, o_aload 0 93), (93, o_gRc 107 128 96), (96, o_iload 1 97), (97, o_push (.int (3 : Int32)) 98), (98, o_iadd 99), (99, o_aldc 128 128 100), (100, o_callVc 107 2 (hX12_searches N) 103), (103, o_pop 104), (104, o_vret)]
set_option maxRecDepth 200000 in
theorem iX12_does {l : Launch} {w : nW} (N : Nat) {G : nG} (hG : n_GOK G) : n_AllS l w 6 mX12_does G (n_fin dv_v G) (aX12_does N) :=
  n_c (s_aload_n (pc := 0) (k := 0) (by decide +kernel)) <|
  n_c (s_gRc (s_getR (pc := 1) (ci := 12) (k := 40) (idx := 74) nok12 (by decide) rfl (by decide +kernel) w_1447) (gk107 hG) (gm107_40 hG)) <|
  n_c (s_iload_n (pc := 4) (k := 1) (by decide +kernel)) <|
  n_c (s_iconst (pc := 5) (n := 1) (by decide +kernel) (by decide +kernel)) <|
  n_c (s_iadd (pc := 6) (by decide +kernel)) <|
  n_c (s_aldc (s_iaload (pc := 7) (by decide +kernel)) (gk128 hG) (gl128 hG)) <|
  n_c (s_istore_n (pc := 8) (k := 2) (by decide +kernel)) <|
  n_c (s_aload_n (pc := 9) (k := 0) (by decide +kernel)) <|
  n_c (s_gRc (s_getR (pc := 10) (ci := 12) (k := 40) (idx := 74) nok12 (by decide) rfl (by decide +kernel) w_1447) (gk107 hG) (gm107_40 hG)) <|
  n_c (s_iload_n (pc := 13) (k := 1) (by decide +kernel)) <|
  n_c (s_iconst (pc := 14) (n := 2) (by decide +kernel) (by decide +kernel)) <|
  n_c (s_iadd (pc := 15) (by decide +kernel)) <|
  n_c (s_aldc (s_iaload (pc := 16) (by decide +kernel)) (gk128 hG) (gl128 hG)) <|
  n_c (s_istore_n (pc := 17) (k := 3) (by decide +kernel)) <|
  n_c (s_iload_n (pc := 18) (k := 2) (by decide +kernel)) <|
  n_c (s_if_eq (pc := 19) (off := 8) (by decide +kernel) (by decide +kernel)) <|
  n_c (s_iload_n (pc := 22) (k := 2) (by decide +kernel)) <|
  n_c (s_iconst (pc := 23) (n := 1) (by decide +kernel) (by decide +kernel)) <|
  n_c (s_icmp_ne (pc := 24) (off := 21) (by decide +kernel) (by decide +kernel)) <|
  n_c (s_aload_n (pc := 27) (k := 0) (by decide +kernel)) <|
  n_c (s_gRc (s_getR (pc := 28) (ci := 12) (k := 1) (idx := 7) nok12 (by decide) rfl (by decide +kernel) w_1408) (gk107 hG) (gm107_1 hG)) <|
  n_c (s_bipush (pc := 31) (n := 76) (by decide +kernel) (by decide +kernel)) <|
  n_c (s_iload_n (pc := 33) (k := 3) (by decide +kernel)) <|
  n_c (s_iadd (pc := 34) (by decide +kernel)) <|
  n_c (s_iload_n (pc := 35) (k := 2) (by decide +kernel)) <|
  n_c (s_if_ne (pc := 36) (off := 7) (by decide +kernel) (by decide +kernel)) <|
  n_c (s_iconst (pc := 39) (n := 1) (by decide +kernel) (by decide +kernel)) <|
  n_c (s_goto (pc := 40) (off := 4) (by decide +kernel) (by decide +kernel)) <|
  n_c (s_iconst (pc := 43) (n := 0) (by decide +kernel) (by decide +kernel)) <|
  n_c (s_iastc (s_iastore (pc := 44) (by decide +kernel)) (gk108 hG) (gl108 hG)) <|
  n_c (s_iload_n (pc := 45) (k := 2) (by decide +kernel)) <|
  n_c (s_iconst (pc := 46) (n := 2) (by decide +kernel) (by decide +kernel)) <|
  n_c (s_icmp_eq (pc := 47) (off := 8) (by decide +kernel) (by decide +kernel)) <|
  n_c (s_iload_n (pc := 50) (k := 2) (by decide +kernel)) <|
  n_c (s_iconst (pc := 51) (n := 3) (by decide +kernel) (by decide +kernel)) <|
  n_c (s_icmp_ne (pc := 52) (off := 21) (by decide +kernel) (by decide +kernel)) <|
  n_c (s_aload_n (pc := 55) (k := 0) (by decide +kernel)) <|
  n_c (s_gRc (s_getR (pc := 56) (ci := 12) (k := 1) (idx := 7) nok12 (by decide) rfl (by decide +kernel) w_1408) (gk107 hG) (gm107_1 hG)) <|
  n_c (s_iconst (pc := 59) (n := 4) (by decide +kernel) (by decide +kernel)) <|
  n_c (s_iload_n (pc := 60) (k := 3) (by decide +kernel)) <|
  n_c (s_iadd (pc := 61) (by decide +kernel)) <|
  n_c (s_iload_n (pc := 62) (k := 2) (by decide +kernel)) <|
  n_c (s_iconst (pc := 63) (n := 2) (by decide +kernel) (by decide +kernel)) <|
  n_c (s_icmp_ne (pc := 64) (off := 7) (by decide +kernel) (by decide +kernel)) <|
  n_c (s_iconst (pc := 67) (n := 1) (by decide +kernel) (by decide +kernel)) <|
  n_c (s_goto (pc := 68) (off := 4) (by decide +kernel) (by decide +kernel)) <|
  n_c (s_iconst (pc := 71) (n := 0) (by decide +kernel) (by decide +kernel)) <|
  n_c (s_iastc (s_iastore (pc := 72) (by decide +kernel)) (gk108 hG) (gl108 hG)) <|
  n_c (s_iload_n (pc := 73) (k := 2) (by decide +kernel)) <|
  n_c (s_iconst (pc := 74) (n := 4) (by decide +kernel) (by decide +kernel)) <|
  n_c (s_icmp_ne (pc := 75) (off := 29) (by decide +kernel) (by decide +kernel)) <|
  n_c (s_aload_n (pc := 78) (k := 0) (by decide +kernel)) <|
  n_c (s_gRc (s_getR (pc := 79) (ci := 12) (k := 1) (idx := 7) nok12 (by decide) rfl (by decide +kernel) w_1408) (gk107 hG) (gm107_1 hG)) <|
  n_c (s_bipush (pc := 82) (n := 76) (by decide +kernel) (by decide +kernel)) <|
  n_c (s_iload_n (pc := 84) (k := 3) (by decide +kernel)) <|
  n_c (s_iadd (pc := 85) (by decide +kernel)) <|
  n_c (s_aldc (s_iaload (pc := 86) (by decide +kernel)) (gk108 hG) (gl108 hG)) <|
  n_c (s_if_ne (pc := 87) (off := 17) (by decide +kernel) (by decide +kernel)) <|
  n_c (s_aload_n (pc := 90) (k := 0) (by decide +kernel)) <|
  n_c (s_iload_n (pc := 91) (k := 3) (by decide +kernel)) <|
  n_c (s_aload_n (pc := 92) (k := 0) (by decide +kernel)) <|
  n_c (s_gRc (s_getR (pc := 93) (ci := 12) (k := 40) (idx := 74) nok12 (by decide) rfl (by decide +kernel) w_1447) (gk107 hG) (gm107_40 hG)) <|
  n_c (s_iload_n (pc := 96) (k := 1) (by decide +kernel)) <|
  n_c (s_iconst (pc := 97) (n := 3) (by decide +kernel) (by decide +kernel)) <|
  n_c (s_iadd (pc := 98) (by decide +kernel)) <|
  n_c (s_aldc (s_iaload (pc := 99) (by decide +kernel)) (gk128 hG) (gl128 hG)) <|
  n_c (s_callVc (s_callV (pc := 100) (csX12_searches N hG) (by decide) okX12_searches nok12 w_1921 w_103 w_1919 (by decide +kernel)) (gk107 hG)) <|
  n_c (s_pop (pc := 103) (by decide +kernel)) <|
  n_c (s_vret (pc := 104) rfl (by decide +kernel)) <|
  n_e
def fX12_does_73 (N : Nat) (x1 : Int32) (x2 : Int32) (x3 : Int32) (M : nM) : Option (Unit × nM) :=
  if ¬ x2 = (4 : Int32) then
    some ((), M)
  else
    n_chk (n_ib 100 ((76 : Int32) + x3)) <|
    if ¬ (M 108 ((76 : Int32) + x3).toNatClampNeg) = 0 then
      some ((), M)
    else
      n_chk (n_ib 128 (x1 + (3 : Int32))) <|
      (fX12_searches N x3 (M 128 (x1 + (3 : Int32)).toNatClampNeg) M).bind fun p1 =>
      some ((), p1.2)
set_option maxRecDepth 200000 in
theorem bX12_does_73 {l : Launch} {w : nW} (N : Nat) {G : nG} (hG : n_GOK G) (x1 : Int32) (x2 : Int32) (x3 : Int32) (M : nM) (r : Unit × nM) (h : fX12_does_73 N x1 x2 x3 M = some r) : n_At l w 6 mX12_does 73 [(0, .ref 107), (1, .int x1), (2, .int x2), (3, .int x3)] [] (G, M) (dv_v r.1, (G, r.2)) :=
  n_seg (fin := n_fin dv_v G) (K := []) 26 (iX12_does N hG) n_ke (by rfl) h
def fX12_does_72 (N : Nat) (x1 : Int32) (x2 : Int32) (x3 : Int32) (s0 : Int32) (s1 : Int32) (M : nM) : Option (Unit × nM) :=
  n_chk (n_ib 100 s1) <|
  let M1 : nM := n_up M 108 s1.toNatClampNeg s0
  fX12_does_73 N x1 x2 x3 M1
set_option maxRecDepth 200000 in
theorem bX12_does_72 {l : Launch} {w : nW} (N : Nat) {G : nG} (hG : n_GOK G) (x1 : Int32) (x2 : Int32) (x3 : Int32) (s0 : Int32) (s1 : Int32) (M : nM) (r : Unit × nM) (h : fX12_does_72 N x1 x2 x3 s0 s1 M = some r) : n_At l w 6 mX12_does 72 [(0, .ref 107), (1, .int x1), (2, .int x2), (3, .int x3)] [.int s0, .int s1, .ref 108] (G, M) (dv_v r.1, (G, r.2)) :=
  n_seg (fin := n_fin dv_v G) (K := [(73, fun lv st M => n_lC 107 lv 0 (n_lI lv 1 (fun x1 => n_lI lv 2 (fun x2 => n_lI lv 3 (fun x3 => n_pE st (fX12_does_73 N x1 x2 x3 M))))))]) 4 (iX12_does N hG) (n_kc (fun lv st M r h => by
      obtain ⟨e0, h1⟩ := n_lC_x h
      obtain ⟨x1, e1, h2⟩ := n_lI_x h1
      obtain ⟨x2, e2, h3⟩ := n_lI_x h2
      obtain ⟨x3, e3, h4⟩ := n_lI_x h3
      obtain ⟨rfl, h5⟩ := n_pE_x h4
      exact n_sub (n_qc e0 (n_qc e1 (n_qc e2 (n_qc e3 n_qe)))) (bX12_does_73 N hG x1 x2 x3 M r h5)) n_ke) (by rfl) h
def fX12_does_55 (N : Nat) (x1 : Int32) (x2 : Int32) (x3 : Int32) (M : nM) : Option (Unit × nM) :=
  if ¬ x2 = (2 : Int32) then
    fX12_does_72 N x1 x2 x3 (0 : Int32) ((4 : Int32) + x3) M
  else
    fX12_does_72 N x1 x2 x3 (1 : Int32) ((4 : Int32) + x3) M
set_option maxRecDepth 200000 in
theorem bX12_does_55 {l : Launch} {w : nW} (N : Nat) {G : nG} (hG : n_GOK G) (x1 : Int32) (x2 : Int32) (x3 : Int32) (M : nM) (r : Unit × nM) (h : fX12_does_55 N x1 x2 x3 M = some r) : n_At l w 6 mX12_does 55 [(0, .ref 107), (1, .int x1), (2, .int x2), (3, .int x3)] [] (G, M) (dv_v r.1, (G, r.2)) :=
  n_seg (fin := n_fin dv_v G) (K := [(72, fun lv st M => n_lC 107 lv 0 (n_lI lv 1 (fun x1 => n_lI lv 2 (fun x2 => n_lI lv 3 (fun x3 => n_pI st (fun s0 st => n_pI st (fun s1 st => n_pC 108 st (fun st => n_pE st (fX12_does_72 N x1 x2 x3 s0 s1 M)))))))))]) 14 (iX12_does N hG) (n_kc (fun lv st M r h => by
      obtain ⟨e0, h1⟩ := n_lC_x h
      obtain ⟨x1, e1, h2⟩ := n_lI_x h1
      obtain ⟨x2, e2, h3⟩ := n_lI_x h2
      obtain ⟨x3, e3, h4⟩ := n_lI_x h3
      obtain ⟨s0, t0, rfl, h5⟩ := n_pI_x h4
      obtain ⟨s1, t1, rfl, h6⟩ := n_pI_x h5
      obtain ⟨t2, rfl, h7⟩ := n_pC_x h6
      obtain ⟨rfl, h8⟩ := n_pE_x h7
      exact n_sub (n_qc e0 (n_qc e1 (n_qc e2 (n_qc e3 n_qe)))) (bX12_does_72 N hG x1 x2 x3 s0 s1 M r h8)) n_ke) (by rfl) h
def fX12_does_45 (N : Nat) (x1 : Int32) (x2 : Int32) (x3 : Int32) (M : nM) : Option (Unit × nM) :=
  if x2 = (2 : Int32) then
    fX12_does_55 N x1 x2 x3 M
  else
    if ¬ x2 = (3 : Int32) then
      fX12_does_73 N x1 x2 x3 M
    else
      fX12_does_55 N x1 x2 x3 M
set_option maxRecDepth 200000 in
theorem bX12_does_45 {l : Launch} {w : nW} (N : Nat) {G : nG} (hG : n_GOK G) (x1 : Int32) (x2 : Int32) (x3 : Int32) (M : nM) (r : Unit × nM) (h : fX12_does_45 N x1 x2 x3 M = some r) : n_At l w 6 mX12_does 45 [(0, .ref 107), (1, .int x1), (2, .int x2), (3, .int x3)] [] (G, M) (dv_v r.1, (G, r.2)) :=
  n_seg (fin := n_fin dv_v G) (K := [(55, fun lv st M => n_lC 107 lv 0 (n_lI lv 1 (fun x1 => n_lI lv 2 (fun x2 => n_lI lv 3 (fun x3 => n_pE st (fX12_does_55 N x1 x2 x3 M)))))), (73, fun lv st M => n_lC 107 lv 0 (n_lI lv 1 (fun x1 => n_lI lv 2 (fun x2 => n_lI lv 3 (fun x3 => n_pE st (fX12_does_73 N x1 x2 x3 M))))))]) 9 (iX12_does N hG) (n_kc (fun lv st M r h => by
      obtain ⟨e0, h1⟩ := n_lC_x h
      obtain ⟨x1, e1, h2⟩ := n_lI_x h1
      obtain ⟨x2, e2, h3⟩ := n_lI_x h2
      obtain ⟨x3, e3, h4⟩ := n_lI_x h3
      obtain ⟨rfl, h5⟩ := n_pE_x h4
      exact n_sub (n_qc e0 (n_qc e1 (n_qc e2 (n_qc e3 n_qe)))) (bX12_does_55 N hG x1 x2 x3 M r h5)) (n_kc (fun lv st M r h => by
      obtain ⟨e0, h1⟩ := n_lC_x h
      obtain ⟨x1, e1, h2⟩ := n_lI_x h1
      obtain ⟨x2, e2, h3⟩ := n_lI_x h2
      obtain ⟨x3, e3, h4⟩ := n_lI_x h3
      obtain ⟨rfl, h5⟩ := n_pE_x h4
      exact n_sub (n_qc e0 (n_qc e1 (n_qc e2 (n_qc e3 n_qe)))) (bX12_does_73 N hG x1 x2 x3 M r h5)) n_ke)) (by rfl) h
def fX12_does_44 (N : Nat) (x1 : Int32) (x2 : Int32) (x3 : Int32) (s0 : Int32) (s1 : Int32) (M : nM) : Option (Unit × nM) :=
  n_chk (n_ib 100 s1) <|
  let M1 : nM := n_up M 108 s1.toNatClampNeg s0
  fX12_does_45 N x1 x2 x3 M1
set_option maxRecDepth 200000 in
theorem bX12_does_44 {l : Launch} {w : nW} (N : Nat) {G : nG} (hG : n_GOK G) (x1 : Int32) (x2 : Int32) (x3 : Int32) (s0 : Int32) (s1 : Int32) (M : nM) (r : Unit × nM) (h : fX12_does_44 N x1 x2 x3 s0 s1 M = some r) : n_At l w 6 mX12_does 44 [(0, .ref 107), (1, .int x1), (2, .int x2), (3, .int x3)] [.int s0, .int s1, .ref 108] (G, M) (dv_v r.1, (G, r.2)) :=
  n_seg (fin := n_fin dv_v G) (K := [(45, fun lv st M => n_lC 107 lv 0 (n_lI lv 1 (fun x1 => n_lI lv 2 (fun x2 => n_lI lv 3 (fun x3 => n_pE st (fX12_does_45 N x1 x2 x3 M))))))]) 4 (iX12_does N hG) (n_kc (fun lv st M r h => by
      obtain ⟨e0, h1⟩ := n_lC_x h
      obtain ⟨x1, e1, h2⟩ := n_lI_x h1
      obtain ⟨x2, e2, h3⟩ := n_lI_x h2
      obtain ⟨x3, e3, h4⟩ := n_lI_x h3
      obtain ⟨rfl, h5⟩ := n_pE_x h4
      exact n_sub (n_qc e0 (n_qc e1 (n_qc e2 (n_qc e3 n_qe)))) (bX12_does_45 N hG x1 x2 x3 M r h5)) n_ke) (by rfl) h
def fX12_does_27 (N : Nat) (x1 : Int32) (x2 : Int32) (x3 : Int32) (M : nM) : Option (Unit × nM) :=
  if ¬ x2 = 0 then
    fX12_does_44 N x1 x2 x3 (0 : Int32) ((76 : Int32) + x3) M
  else
    fX12_does_44 N x1 x2 x3 (1 : Int32) ((76 : Int32) + x3) M
set_option maxRecDepth 200000 in
theorem bX12_does_27 {l : Launch} {w : nW} (N : Nat) {G : nG} (hG : n_GOK G) (x1 : Int32) (x2 : Int32) (x3 : Int32) (M : nM) (r : Unit × nM) (h : fX12_does_27 N x1 x2 x3 M = some r) : n_At l w 6 mX12_does 27 [(0, .ref 107), (1, .int x1), (2, .int x2), (3, .int x3)] [] (G, M) (dv_v r.1, (G, r.2)) :=
  n_seg (fin := n_fin dv_v G) (K := [(44, fun lv st M => n_lC 107 lv 0 (n_lI lv 1 (fun x1 => n_lI lv 2 (fun x2 => n_lI lv 3 (fun x3 => n_pI st (fun s0 st => n_pI st (fun s1 st => n_pC 108 st (fun st => n_pE st (fX12_does_44 N x1 x2 x3 s0 s1 M)))))))))]) 13 (iX12_does N hG) (n_kc (fun lv st M r h => by
      obtain ⟨e0, h1⟩ := n_lC_x h
      obtain ⟨x1, e1, h2⟩ := n_lI_x h1
      obtain ⟨x2, e2, h3⟩ := n_lI_x h2
      obtain ⟨x3, e3, h4⟩ := n_lI_x h3
      obtain ⟨s0, t0, rfl, h5⟩ := n_pI_x h4
      obtain ⟨s1, t1, rfl, h6⟩ := n_pI_x h5
      obtain ⟨t2, rfl, h7⟩ := n_pC_x h6
      obtain ⟨rfl, h8⟩ := n_pE_x h7
      exact n_sub (n_qc e0 (n_qc e1 (n_qc e2 (n_qc e3 n_qe)))) (bX12_does_44 N hG x1 x2 x3 s0 s1 M r h8)) n_ke) (by rfl) h
def fX12_does (N : Nat) (x1 : Int32) (M : nM) : Option (Unit × nM) :=
  n_chk (n_ib 128 (x1 + (1 : Int32))) <|
  let v1 : Int32 := (M 128 (x1 + (1 : Int32)).toNatClampNeg)
  n_chk (n_ib 128 (x1 + (2 : Int32))) <|
  let v2 : Int32 := (M 128 (x1 + (2 : Int32)).toNatClampNeg)
  if v1 = 0 then
    fX12_does_27 N x1 v1 v2 M
  else
    if ¬ v1 = (1 : Int32) then
      fX12_does_45 N x1 v1 v2 M
    else
      fX12_does_27 N x1 v1 v2 M
set_option maxRecDepth 200000 in
theorem bX12_does_0 {l : Launch} {w : nW} (N : Nat) {G : nG} (hG : n_GOK G) (x1 : Int32) (M : nM) (r : Unit × nM) (h : fX12_does N x1 M = some r) : n_At l w 6 mX12_does 0 [(0, .ref 107), (1, .int x1)] [] (G, M) (dv_v r.1, (G, r.2)) :=
  n_seg (fin := n_fin dv_v G) (K := [(27, fun lv st M => n_lC 107 lv 0 (n_lI lv 1 (fun x1 => n_lI lv 2 (fun x2 => n_lI lv 3 (fun x3 => n_pE st (fX12_does_27 N x1 x2 x3 M)))))), (45, fun lv st M => n_lC 107 lv 0 (n_lI lv 1 (fun x1 => n_lI lv 2 (fun x2 => n_lI lv 3 (fun x3 => n_pE st (fX12_does_45 N x1 x2 x3 M))))))]) 22 (iX12_does N hG) (n_kc (fun lv st M r h => by
      obtain ⟨e0, h1⟩ := n_lC_x h
      obtain ⟨x1, e1, h2⟩ := n_lI_x h1
      obtain ⟨x2, e2, h3⟩ := n_lI_x h2
      obtain ⟨x3, e3, h4⟩ := n_lI_x h3
      obtain ⟨rfl, h5⟩ := n_pE_x h4
      exact n_sub (n_qc e0 (n_qc e1 (n_qc e2 (n_qc e3 n_qe)))) (bX12_does_27 N hG x1 x2 x3 M r h5)) (n_kc (fun lv st M r h => by
      obtain ⟨e0, h1⟩ := n_lC_x h
      obtain ⟨x1, e1, h2⟩ := n_lI_x h1
      obtain ⟨x2, e2, h3⟩ := n_lI_x h2
      obtain ⟨x3, e3, h4⟩ := n_lI_x h3
      obtain ⟨rfl, h5⟩ := n_pE_x h4
      exact n_sub (n_qc e0 (n_qc e1 (n_qc e2 (n_qc e3 n_qe)))) (bX12_does_45 N hG x1 x2 x3 M r h5)) n_ke)) (by rfl) h
theorem eX12_does {l : Launch} {w : nW} (N : Nat) {G : nG} (hG : n_GOK G) (z1 : Int32) (M : nM) (r : Unit × nM) (h : fX12_does N z1 M = some r) : n_Met l w 6 mX12_does [.ref 107, .int z1] (G, M) (dv_v r.1, (G, r.2)) :=
  n_entry (by decide +kernel) rfl (Nat.le_of_ble_eq_true rfl) (n_sub (lv := [(0, .ref 107), (1, .int z1)]) (n_qc rfl (n_qc rfl n_qe)) (bX12_does_0 N hG z1 M r h))
abbrev hX12_does (N : Nat) : nF := fun T as M k => n_pC 107 as (fun as => n_pI as (fun z1 as => n_pE as ((fX12_does N z1 M).bind fun p => k (dv_v p.1) p.2)))
theorem csX12_does {l : Launch} {w : nW} (N : Nat) {G : nG} (hG : n_GOK G) : n_CS l w 6 mX12_does G (hX12_does N) := fun T as M k r h => by
  obtain ⟨t0, rfl, h1⟩ := n_pC_x h
  obtain ⟨z1, t1, rfl, h2⟩ := n_pI_x h1
  obtain ⟨rfl, hE⟩ := n_pE_x h2
  obtain ⟨p, hp, hk⟩ := Option.bind_eq_some_iff.mp hE
  exact ⟨_, _, eX12_does N hG z1 M p hp, hk⟩
/-! ===== SleightHouseModel.fallsOut(I)V ===== -/
def mX12_fallsOut : nY := (RX12, yX12_fallsOut, cX12_fallsOut, 4, none)
theorem okX12_fallsOut : n_MOK mX12_fallsOut 1 := ⟨w_1946, w_151, ⟨by decide +kernel, by decide +kernel, by decide +kernel⟩, by decide⟩
abbrev aX12_fallsOut (N : Nat) : List (Nat × nO (Unit × nM)) := [(0, o_iload 1 1), (1, o_push (.int (1 : Int32)) 2), (2, o_iadd 3), (3, o_push (.int (12 : Int32)) 5), (5, o_irem 6), (6, o_istore 4 2 7), (7, o_aload 0 8), (8, o_gIc 107 6 11), (11, o_push (.int (1 : Int32)) 12), (12, o_isub 13), (13, o_istore 4 3 14), (14, o_iload 3 15), (15, oi_lt 80 18), (18, o_aload 0 19), (19, o_iload 1 20), (20, o_callVc 107 1 (hX12_fullOf N) 23), (23, o_aload 0 24), (24, o_iload 1 25), (25, o_callVc 107 1 (hX12_roomOf) 28), (28, oc_le 80 31), (31, o_aload 0 32), (32, o_gRc 107 108 35), (35, o_push (.int (28 : Int32)) 37), (37, o_iload 3 38), (38, o_iadd 39), (39, o_aldc 108 100 40), (40, o_iload 1 41), (41, oc_eq 47 44), (44, o_goto 74), (47, o_aload 0 48), (48, o_gRc 107 108 51), (51, o_push (.int (28 : Int32)) 53), (53, o_iload 3 54), (54, o_iadd 55), (55, o_iload 2 56), (56, o_iastc 108 100 57), (57, o_aload 0 58), (58, o_gRc 107 108 61), (61, o_push (.int (60 : Int32)) 63), (63, o_iload 3 64), (64, o_iadd 65), (65, o_push (.int (1 : Int32)) 66), (66, o_iastc 108 100 67), (67, o_aload 0 68), (68, o_push (.int (4 : Int32)) 69), (69, o_iload 3 70), (70, o_iload 2 71), (71, o_callVc 107 3 (hX12_notes) 74), (74, o_inc 4 3 (-1 : Int32) 77), (77, o_goto 14), (80, o_vret)]
set_option maxRecDepth 200000 in
theorem iX12_fallsOut {l : Launch} {w : nW} (N : Nat) {G : nG} (hG : n_GOK G) : n_AllS l w 1 mX12_fallsOut G (n_fin dv_v G) (aX12_fallsOut N) :=
  n_c (s_iload_n (pc := 0) (k := 1) (by decide +kernel)) <|
  n_c (s_iconst (pc := 1) (n := 1) (by decide +kernel) (by decide +kernel)) <|
  n_c (s_iadd (pc := 2) (by decide +kernel)) <|
  n_c (s_bipush (pc := 3) (n := 12) (by decide +kernel) (by decide +kernel)) <|
  n_c (s_irem (pc := 5) (by decide +kernel)) <|
  n_c (s_istore_n (pc := 6) (k := 2) (by decide +kernel)) <|
  n_c (s_aload_n (pc := 7) (k := 0) (by decide +kernel)) <|
  n_c (s_gIc (s_getI (pc := 8) (ci := 12) (k := 6) (idx := 158) nok12 (by decide) rfl (by decide +kernel) w_1413) (gk107 hG)) <|
  n_c (s_iconst (pc := 11) (n := 1) (by decide +kernel) (by decide +kernel)) <|
  n_c (s_isub (pc := 12) (by decide +kernel)) <|
  n_c (s_istore_n (pc := 13) (k := 3) (by decide +kernel)) <|
  n_c (s_iload_n (pc := 14) (k := 3) (by decide +kernel)) <|
  n_c (s_if_lt (pc := 15) (off := 65) (by decide +kernel) (by decide +kernel)) <|
  n_c (s_aload_n (pc := 18) (k := 0) (by decide +kernel)) <|
  n_c (s_iload_n (pc := 19) (k := 1) (by decide +kernel)) <|
  n_c (s_callVc (s_callV (pc := 20) (csX12_fullOf N hG) (by decide) okX12_fullOf nok12 w_1851 w_87 w_1849 (by decide +kernel)) (gk107 hG)) <|
  n_c (s_aload_n (pc := 23) (k := 0) (by decide +kernel)) <|
  n_c (s_iload_n (pc := 24) (k := 1) (by decide +kernel)) <|
  n_c (s_callVc (s_callV (pc := 25) (csX12_roomOf hG) (by decide) okX12_roomOf nok12 w_1855 w_88 w_1853 (by decide +kernel)) (gk107 hG)) <|
  n_c (s_icmp_le (pc := 28) (off := 52) (by decide +kernel) (by decide +kernel)) <|
  n_c (s_aload_n (pc := 31) (k := 0) (by decide +kernel)) <|
  n_c (s_gRc (s_getR (pc := 32) (ci := 12) (k := 1) (idx := 7) nok12 (by decide) rfl (by decide +kernel) w_1408) (gk107 hG) (gm107_1 hG)) <|
  n_c (s_bipush (pc := 35) (n := 28) (by decide +kernel) (by decide +kernel)) <|
  n_c (s_iload_n (pc := 37) (k := 3) (by decide +kernel)) <|
  n_c (s_iadd (pc := 38) (by decide +kernel)) <|
  n_c (s_aldc (s_iaload (pc := 39) (by decide +kernel)) (gk108 hG) (gl108 hG)) <|
  n_c (s_iload_n (pc := 40) (k := 1) (by decide +kernel)) <|
  n_c (s_icmp_eq (pc := 41) (off := 6) (by decide +kernel) (by decide +kernel)) <|
  n_c (s_goto (pc := 44) (off := 30) (by decide +kernel) (by decide +kernel)) <|
  n_c (s_aload_n (pc := 47) (k := 0) (by decide +kernel)) <|
  n_c (s_gRc (s_getR (pc := 48) (ci := 12) (k := 1) (idx := 7) nok12 (by decide) rfl (by decide +kernel) w_1408) (gk107 hG) (gm107_1 hG)) <|
  n_c (s_bipush (pc := 51) (n := 28) (by decide +kernel) (by decide +kernel)) <|
  n_c (s_iload_n (pc := 53) (k := 3) (by decide +kernel)) <|
  n_c (s_iadd (pc := 54) (by decide +kernel)) <|
  n_c (s_iload_n (pc := 55) (k := 2) (by decide +kernel)) <|
  n_c (s_iastc (s_iastore (pc := 56) (by decide +kernel)) (gk108 hG) (gl108 hG)) <|
  n_c (s_aload_n (pc := 57) (k := 0) (by decide +kernel)) <|
  n_c (s_gRc (s_getR (pc := 58) (ci := 12) (k := 1) (idx := 7) nok12 (by decide) rfl (by decide +kernel) w_1408) (gk107 hG) (gm107_1 hG)) <|
  n_c (s_bipush (pc := 61) (n := 60) (by decide +kernel) (by decide +kernel)) <|
  n_c (s_iload_n (pc := 63) (k := 3) (by decide +kernel)) <|
  n_c (s_iadd (pc := 64) (by decide +kernel)) <|
  n_c (s_iconst (pc := 65) (n := 1) (by decide +kernel) (by decide +kernel)) <|
  n_c (s_iastc (s_iastore (pc := 66) (by decide +kernel)) (gk108 hG) (gl108 hG)) <|
  n_c (s_aload_n (pc := 67) (k := 0) (by decide +kernel)) <|
  n_c (s_iconst (pc := 68) (n := 4) (by decide +kernel) (by decide +kernel)) <|
  n_c (s_iload_n (pc := 69) (k := 3) (by decide +kernel)) <|
  n_c (s_iload_n (pc := 70) (k := 2) (by decide +kernel)) <|
  n_c (s_callVc (s_callV (pc := 71) (csX12_notes hG) (by decide) okX12_notes nok12 w_1867 w_91 w_1865 (by decide +kernel)) (gk107 hG)) <|
  n_c (s_iinc (pc := 74) (n := -1) (by decide +kernel) (by decide +kernel)) <|
  n_c (s_goto (pc := 77) (off := -63) (by decide +kernel) (by decide +kernel)) <|
  n_c (s_vret (pc := 80) rfl (by decide +kernel)) <|
  n_e
def fX12_fallsOut_14 (N : Nat) : Nat → Int32 → Int32 → Int32 → nM → Option (Unit × nM)
  | 0, _, _, _, _ => none
  | n + 1, x1, x2, x3, M =>
    if x3 < 0 then
      some ((), M)
    else
      (fX12_fullOf N x1 M).bind fun p1 =>
      (fX12_roomOf x1 p1.2).bind fun p2 =>
      if p1.1 ≤ p2.1 then
        some ((), p2.2)
      else
        n_chk (n_ib 100 ((28 : Int32) + x3)) <|
        if (p2.2 108 ((28 : Int32) + x3).toNatClampNeg) = x1 then
          n_chk (n_ib 100 ((28 : Int32) + x3)) <|
          let M3 : nM := n_up p2.2 108 ((28 : Int32) + x3).toNatClampNeg x2
          n_chk (n_ib 100 ((60 : Int32) + x3)) <|
          let M4 : nM := n_up M3 108 ((60 : Int32) + x3).toNatClampNeg (1 : Int32)
          (fX12_notes (4 : Int32) x3 x2 M4).bind fun p5 =>
          let v6 : Int32 := (x3 + (-1 : Int32))
          fX12_fallsOut_14 N n x1 x2 v6 p5.2
        else
          let v7 : Int32 := (x3 + (-1 : Int32))
          fX12_fallsOut_14 N n x1 x2 v7 p2.2
set_option maxRecDepth 200000 in
theorem bX12_fallsOut_14 {l : Launch} {w : nW} (N : Nat) {G : nG} (hG : n_GOK G) : ∀ (n : Nat) (x1 : Int32) (x2 : Int32) (x3 : Int32) (M : nM) (r : Unit × nM), fX12_fallsOut_14 N n x1 x2 x3 M = some r → n_At l w 1 mX12_fallsOut 14 [(0, .ref 107), (1, .int x1), (2, .int x2), (3, .int x3)] [] (G, M) (dv_v r.1, (G, r.2)) := by
  intro n
  induction n with
  | zero => intro x1 x2 x3 M r h; cases (show (none : Option (Unit × nM)) = some r from h)
  | succ n ih =>
    intro x1 x2 x3 M r h
    exact n_seg (fin := n_fin dv_v G) (K := [(14, fun lv st M => n_lC 107 lv 0 (n_lI lv 1 (fun x1 => n_lI lv 2 (fun x2 => n_lI lv 3 (fun x3 => n_pE st (fX12_fallsOut_14 N n x1 x2 x3 M))))))]) 46 (iX12_fallsOut N hG) (n_kc (fun lv st M r h => by
      obtain ⟨e0, h1⟩ := n_lC_x h
      obtain ⟨x1, e1, h2⟩ := n_lI_x h1
      obtain ⟨x2, e2, h3⟩ := n_lI_x h2
      obtain ⟨x3, e3, h4⟩ := n_lI_x h3
      obtain ⟨rfl, h5⟩ := n_pE_x h4
      exact n_sub (n_qc e0 (n_qc e1 (n_qc e2 (n_qc e3 n_qe)))) (ih x1 x2 x3 M r h5)) n_ke) (by rfl) h
def fX12_fallsOut (N : Nat) (x1 : Int32) (M : nM) : Option (Unit × nM) :=
  if (12 : Int32) = 0 then none else
  let v1 : Int32 := ((x1 + (1 : Int32)) - (x1 + (1 : Int32)) / (12 : Int32) * (12 : Int32))
  let v2 : Int32 := ((M 107 6) - (1 : Int32))
  fX12_fallsOut_14 N N x1 v1 v2 M
set_option maxRecDepth 200000 in
theorem bX12_fallsOut_0 {l : Launch} {w : nW} (N : Nat) {G : nG} (hG : n_GOK G) (x1 : Int32) (M : nM) (r : Unit × nM) (h : fX12_fallsOut N x1 M = some r) : n_At l w 1 mX12_fallsOut 0 [(0, .ref 107), (1, .int x1)] [] (G, M) (dv_v r.1, (G, r.2)) :=
  n_seg (fin := n_fin dv_v G) (K := [(14, fun lv st M => n_lC 107 lv 0 (n_lI lv 1 (fun x1 => n_lI lv 2 (fun x2 => n_lI lv 3 (fun x3 => n_pE st (fX12_fallsOut_14 N N x1 x2 x3 M))))))]) 14 (iX12_fallsOut N hG) (n_kc (fun lv st M r h => by
      obtain ⟨e0, h1⟩ := n_lC_x h
      obtain ⟨x1, e1, h2⟩ := n_lI_x h1
      obtain ⟨x2, e2, h3⟩ := n_lI_x h2
      obtain ⟨x3, e3, h4⟩ := n_lI_x h3
      obtain ⟨rfl, h5⟩ := n_pE_x h4
      exact n_sub (n_qc e0 (n_qc e1 (n_qc e2 (n_qc e3 n_qe)))) (bX12_fallsOut_14 N hG N x1 x2 x3 M r h5)) n_ke) (by rfl) h
theorem eX12_fallsOut {l : Launch} {w : nW} (N : Nat) {G : nG} (hG : n_GOK G) (z1 : Int32) (M : nM) (r : Unit × nM) (h : fX12_fallsOut N z1 M = some r) : n_Met l w 1 mX12_fallsOut [.ref 107, .int z1] (G, M) (dv_v r.1, (G, r.2)) :=
  n_entry (by decide +kernel) rfl (Nat.le_of_ble_eq_true rfl) (n_sub (lv := [(0, .ref 107), (1, .int z1)]) (n_qc rfl (n_qc rfl n_qe)) (bX12_fallsOut_0 N hG z1 M r h))
abbrev hX12_fallsOut (N : Nat) : nF := fun T as M k => n_pC 107 as (fun as => n_pI as (fun z1 as => n_pE as ((fX12_fallsOut N z1 M).bind fun p => k (dv_v p.1) p.2)))
theorem csX12_fallsOut {l : Launch} {w : nW} (N : Nat) {G : nG} (hG : n_GOK G) : n_CS l w 1 mX12_fallsOut G (hX12_fallsOut N) := fun T as M k r h => by
  obtain ⟨t0, rfl, h1⟩ := n_pC_x h
  obtain ⟨z1, t1, rfl, h2⟩ := n_pI_x h1
  obtain ⟨rfl, hE⟩ := n_pE_x h2
  obtain ⟨p, hp, hk⟩ := Option.bind_eq_some_iff.mp hE
  exact ⟨_, _, eX12_fallsOut N hG z1 M p hp, hk⟩
/-! ===== SleightHouseModel.goesBy()I ===== -/
def mX12_goesBy : nY := (RX12, yX12_goesBy, cX12_goesBy, 3, some .int)
theorem okX12_goesBy : n_MOK mX12_goesBy 0 := ⟨w_1938, w_151, ⟨by decide +kernel, by decide +kernel, by decide +kernel⟩, by decide⟩
abbrev aX12_goesBy (N : Nat) : List (Nat × nO (Int32 × nM)) := [(0, o_push (.int (0 : Int32)) 1), (1, o_istore 3 1 2), (2, o_iload 1 3), (3, o_push (.int (4 : Int32)) 4), (4, o_aload 0 5), (5, o_gIc 107 39 8), (8, o_imul 9), (9, oc_ge 39 12), (12, o_aload 0 13), (13, o_gRc 107 128 16), (16, o_iload 1 17), (17, o_aldc 128 128 18), (18, o_aload 0 19), (19, o_gRc 107 108 22), (22, o_push (.int (0 : Int32)) 23), (23, o_aldc 108 100 24), (24, oc_ne 32 27), (27, o_aload 0 28), (28, o_iload 1 29), (29, o_callVc 107 1 (hX12_does N) 32), (32, o_iload 1 33), (33, o_push (.int (4 : Int32)) 34), (34, o_iadd 35), (35, o_istore 3 1 36), (36, o_goto 2), (39, o_push (.int (0 : Int32)) 40), (40, o_istore 3 1 41), (41, o_push (.int (0 : Int32)) 42), (42, o_istore 3 2 43), (43, o_iload 2 44), (44, o_push (.int (4 : Int32)) 45), (45, o_aload 0 46), (46, o_gIc 107 37 49), (49, o_imul 50), (50, oc_ge 141 53), (53, o_aload 0 54), (54, o_gRc 107 127 57), (57, o_iload 2 58), (58, o_aldc 127 128 59), (59, o_aload 0 60), (60, o_gRc 107 108 63), (63, o_push (.int (0 : Int32)) 64), (64, o_aldc 108 100 65), (65, oc_ne 134 68), (68, o_aload 0 69), (69, o_aload 0 70), (70, o_gRc 107 127 73), (73, o_iload 2 74), (74, o_push (.int (1 : Int32)) 75), (75, o_iadd 76), (76, o_aldc 127 128 77), (77, o_aload 0 78), (78, o_gRc 107 127 81), (81, o_iload 2 82), (82, o_push (.int (2 : Int32)) 83), (83, o_iadd 84), (84, o_aldc 127 128 85), (85, o_aload 0 86), (86, o_gRc 107 127 89), (89, o_iload 2 90), (90, o_push (.int (3 : Int32)) 91), (91, o_iadd 92), (92, o_aldc 127 128 93), (93, o_callVc 107 3 (hX12_canPut N) 96), (96, oi_eq 134 99), (99, o_aload 0 100), (100, o_aload 0 101), (101, o_gRc 107 127 104), (104, o_iload 2 105), (105, o_push (.int (1 : Int32)) 106), (106, o_iadd 107), (107, o_aldc 127 128 108), (108, o_aload 0 109), (109, o_gRc 107 127 112), (112, o_iload 2 113), (113, o_push (.int (2 : Int32)) 114), (114, o_iadd 115), (115, o_aldc 127 128 116), (116, o_aload 0 117), (117, o_gRc 107 127 120), (120, o_iload 2 121), (121, o_push (.int (3 : Int32)) 122), (122, o_iadd 123), (123, o_aldc 127 128 124), (124, o_callVc 107 3 (hX12_isPut N) 127), (127, oi_eq 134 130), (130, o_iload 1 131), (131, o_push (.int (1 : Int32)) 132), (132, o_iadd 133), (133, o_istore 3 1 134), (134, o_iload 2 135), (135, o_push (.int (4 : Int32)) 136), (136, o_iadd 137), (137, o_istore 3 2 138), (138, o_goto 43), (141, o_push (.int (0 : Int32)) 142), (142, o_istore 3 2 143), (143, o_iload 2 144), (144, o_push (.int (12 : Int32)) 146), (146, oc_ge 160 149), (149, o_aload 0 150), (150, o_iload 2 151), (151, o_callVc 107 1 (hX12_fallsOut N) 154), (154, o_inc 3 2 (1 : Int32) 157), (157, o_goto 143), (160, o_aload 0 161), (161, o_gRc 107 108 164), (164, o_push (.int (0 : Int32)) 165), (165, o_aload 0 166), (166, o_gRc 107 108 169), (169, o_push (.int (0 : Int32)) 170), (170, o_aldc 108 100 171), (171, o_push (.int (1 : Int32)) 172), (172, o_iadd 173), (173, o_iastc 108 100 174), (174, o_iload 1 175), (175, o_iret)]
set_option maxRecDepth 200000 in
theorem iX12_goesBy {l : Launch} {w : nW} (N : Nat) {G : nG} (hG : n_GOK G) : n_AllS l w 7 mX12_goesBy G (n_fin dv_i G) (aX12_goesBy N) :=
  n_c (s_iconst (pc := 0) (n := 0) (by decide +kernel) (by decide +kernel)) <|
  n_c (s_istore_n (pc := 1) (k := 1) (by decide +kernel)) <|
  n_c (s_iload_n (pc := 2) (k := 1) (by decide +kernel)) <|
  n_c (s_iconst (pc := 3) (n := 4) (by decide +kernel) (by decide +kernel)) <|
  n_c (s_aload_n (pc := 4) (k := 0) (by decide +kernel)) <|
  n_c (s_gIc (s_getI (pc := 5) (ci := 12) (k := 39) (idx := 326) nok12 (by decide) rfl (by decide +kernel) w_1446) (gk107 hG)) <|
  n_c (s_imul (pc := 8) (by decide +kernel)) <|
  n_c (s_icmp_ge (pc := 9) (off := 30) (by decide +kernel) (by decide +kernel)) <|
  n_c (s_aload_n (pc := 12) (k := 0) (by decide +kernel)) <|
  n_c (s_gRc (s_getR (pc := 13) (ci := 12) (k := 40) (idx := 74) nok12 (by decide) rfl (by decide +kernel) w_1447) (gk107 hG) (gm107_40 hG)) <|
  n_c (s_iload_n (pc := 16) (k := 1) (by decide +kernel)) <|
  n_c (s_aldc (s_iaload (pc := 17) (by decide +kernel)) (gk128 hG) (gl128 hG)) <|
  n_c (s_aload_n (pc := 18) (k := 0) (by decide +kernel)) <|
  n_c (s_gRc (s_getR (pc := 19) (ci := 12) (k := 1) (idx := 7) nok12 (by decide) rfl (by decide +kernel) w_1408) (gk107 hG) (gm107_1 hG)) <|
  n_c (s_iconst (pc := 22) (n := 0) (by decide +kernel) (by decide +kernel)) <|
  n_c (s_aldc (s_iaload (pc := 23) (by decide +kernel)) (gk108 hG) (gl108 hG)) <|
  n_c (s_icmp_ne (pc := 24) (off := 8) (by decide +kernel) (by decide +kernel)) <|
  n_c (s_aload_n (pc := 27) (k := 0) (by decide +kernel)) <|
  n_c (s_iload_n (pc := 28) (k := 1) (by decide +kernel)) <|
  n_c (s_callVc (s_callV (pc := 29) (csX12_does N hG) (by decide) okX12_does nok12 w_1941 w_106 w_1939 (by decide +kernel)) (gk107 hG)) <|
  n_c (s_iload_n (pc := 32) (k := 1) (by decide +kernel)) <|
  n_c (s_iconst (pc := 33) (n := 4) (by decide +kernel) (by decide +kernel)) <|
  n_c (s_iadd (pc := 34) (by decide +kernel)) <|
  n_c (s_istore_n (pc := 35) (k := 1) (by decide +kernel)) <|
  n_c (s_goto (pc := 36) (off := -34) (by decide +kernel) (by decide +kernel)) <|
  n_c (s_iconst (pc := 39) (n := 0) (by decide +kernel) (by decide +kernel)) <|
  n_c (s_istore_n (pc := 40) (k := 1) (by decide +kernel)) <|
  n_c (s_iconst (pc := 41) (n := 0) (by decide +kernel) (by decide +kernel)) <|
  n_c (s_istore_n (pc := 42) (k := 2) (by decide +kernel)) <|
  n_c (s_iload_n (pc := 43) (k := 2) (by decide +kernel)) <|
  n_c (s_iconst (pc := 44) (n := 4) (by decide +kernel) (by decide +kernel)) <|
  n_c (s_aload_n (pc := 45) (k := 0) (by decide +kernel)) <|
  n_c (s_gIc (s_getI (pc := 46) (ci := 12) (k := 37) (idx := 323) nok12 (by decide) rfl (by decide +kernel) w_1444) (gk107 hG)) <|
  n_c (s_imul (pc := 49) (by decide +kernel)) <|
  n_c (s_icmp_ge (pc := 50) (off := 91) (by decide +kernel) (by decide +kernel)) <|
  n_c (s_aload_n (pc := 53) (k := 0) (by decide +kernel)) <|
  n_c (s_gRc (s_getR (pc := 54) (ci := 12) (k := 38) (idx := 71) nok12 (by decide) rfl (by decide +kernel) w_1445) (gk107 hG) (gm107_38 hG)) <|
  n_c (s_iload_n (pc := 57) (k := 2) (by decide +kernel)) <|
  n_c (s_aldc (s_iaload (pc := 58) (by decide +kernel)) (gk127 hG) (gl127 hG)) <|
  n_c (s_aload_n (pc := 59) (k := 0) (by decide +kernel)) <|
  n_c (s_gRc (s_getR (pc := 60) (ci := 12) (k := 1) (idx := 7) nok12 (by decide) rfl (by decide +kernel) w_1408) (gk107 hG) (gm107_1 hG)) <|
  n_c (s_iconst (pc := 63) (n := 0) (by decide +kernel) (by decide +kernel)) <|
  n_c (s_aldc (s_iaload (pc := 64) (by decide +kernel)) (gk108 hG) (gl108 hG)) <|
  n_c (s_icmp_ne (pc := 65) (off := 69) (by decide +kernel) (by decide +kernel)) <|
  n_c (s_aload_n (pc := 68) (k := 0) (by decide +kernel)) <|
  n_c (s_aload_n (pc := 69) (k := 0) (by decide +kernel)) <|
  n_c (s_gRc (s_getR (pc := 70) (ci := 12) (k := 38) (idx := 71) nok12 (by decide) rfl (by decide +kernel) w_1445) (gk107 hG) (gm107_38 hG)) <|
  n_c (s_iload_n (pc := 73) (k := 2) (by decide +kernel)) <|
  n_c (s_iconst (pc := 74) (n := 1) (by decide +kernel) (by decide +kernel)) <|
  n_c (s_iadd (pc := 75) (by decide +kernel)) <|
  n_c (s_aldc (s_iaload (pc := 76) (by decide +kernel)) (gk127 hG) (gl127 hG)) <|
  n_c (s_aload_n (pc := 77) (k := 0) (by decide +kernel)) <|
  n_c (s_gRc (s_getR (pc := 78) (ci := 12) (k := 38) (idx := 71) nok12 (by decide) rfl (by decide +kernel) w_1445) (gk107 hG) (gm107_38 hG)) <|
  n_c (s_iload_n (pc := 81) (k := 2) (by decide +kernel)) <|
  n_c (s_iconst (pc := 82) (n := 2) (by decide +kernel) (by decide +kernel)) <|
  n_c (s_iadd (pc := 83) (by decide +kernel)) <|
  n_c (s_aldc (s_iaload (pc := 84) (by decide +kernel)) (gk127 hG) (gl127 hG)) <|
  n_c (s_aload_n (pc := 85) (k := 0) (by decide +kernel)) <|
  n_c (s_gRc (s_getR (pc := 86) (ci := 12) (k := 38) (idx := 71) nok12 (by decide) rfl (by decide +kernel) w_1445) (gk107 hG) (gm107_38 hG)) <|
  n_c (s_iload_n (pc := 89) (k := 2) (by decide +kernel)) <|
  n_c (s_iconst (pc := 90) (n := 3) (by decide +kernel) (by decide +kernel)) <|
  n_c (s_iadd (pc := 91) (by decide +kernel)) <|
  n_c (s_aldc (s_iaload (pc := 92) (by decide +kernel)) (gk127 hG) (gl127 hG)) <|
  n_c (s_callVc (s_callV (pc := 93) (csX12_canPut N hG) (by decide) okX12_canPut nok12 w_1843 w_85 w_1841 (by decide +kernel)) (gk107 hG)) <|
  n_c (s_if_eq (pc := 96) (off := 38) (by decide +kernel) (by decide +kernel)) <|
  n_c (s_aload_n (pc := 99) (k := 0) (by decide +kernel)) <|
  n_c (s_aload_n (pc := 100) (k := 0) (by decide +kernel)) <|
  n_c (s_gRc (s_getR (pc := 101) (ci := 12) (k := 38) (idx := 71) nok12 (by decide) rfl (by decide +kernel) w_1445) (gk107 hG) (gm107_38 hG)) <|
  n_c (s_iload_n (pc := 104) (k := 2) (by decide +kernel)) <|
  n_c (s_iconst (pc := 105) (n := 1) (by decide +kernel) (by decide +kernel)) <|
  n_c (s_iadd (pc := 106) (by decide +kernel)) <|
  n_c (s_aldc (s_iaload (pc := 107) (by decide +kernel)) (gk127 hG) (gl127 hG)) <|
  n_c (s_aload_n (pc := 108) (k := 0) (by decide +kernel)) <|
  n_c (s_gRc (s_getR (pc := 109) (ci := 12) (k := 38) (idx := 71) nok12 (by decide) rfl (by decide +kernel) w_1445) (gk107 hG) (gm107_38 hG)) <|
  n_c (s_iload_n (pc := 112) (k := 2) (by decide +kernel)) <|
  n_c (s_iconst (pc := 113) (n := 2) (by decide +kernel) (by decide +kernel)) <|
  n_c (s_iadd (pc := 114) (by decide +kernel)) <|
  n_c (s_aldc (s_iaload (pc := 115) (by decide +kernel)) (gk127 hG) (gl127 hG)) <|
  n_c (s_aload_n (pc := 116) (k := 0) (by decide +kernel)) <|
  n_c (s_gRc (s_getR (pc := 117) (ci := 12) (k := 38) (idx := 71) nok12 (by decide) rfl (by decide +kernel) w_1445) (gk107 hG) (gm107_38 hG)) <|
  n_c (s_iload_n (pc := 120) (k := 2) (by decide +kernel)) <|
  n_c (s_iconst (pc := 121) (n := 3) (by decide +kernel) (by decide +kernel)) <|
  n_c (s_iadd (pc := 122) (by decide +kernel)) <|
  n_c (s_aldc (s_iaload (pc := 123) (by decide +kernel)) (gk127 hG) (gl127 hG)) <|
  n_c (s_callVc (s_callV (pc := 124) (csX12_isPut N hG) (by decide) okX12_isPut nok12 w_1863 w_90 w_1861 (by decide +kernel)) (gk107 hG)) <|
  n_c (s_if_eq (pc := 127) (off := 7) (by decide +kernel) (by decide +kernel)) <|
  n_c (s_iload_n (pc := 130) (k := 1) (by decide +kernel)) <|
  n_c (s_iconst (pc := 131) (n := 1) (by decide +kernel) (by decide +kernel)) <|
  n_c (s_iadd (pc := 132) (by decide +kernel)) <|
  n_c (s_istore_n (pc := 133) (k := 1) (by decide +kernel)) <|
  n_c (s_iload_n (pc := 134) (k := 2) (by decide +kernel)) <|
  n_c (s_iconst (pc := 135) (n := 4) (by decide +kernel) (by decide +kernel)) <|
  n_c (s_iadd (pc := 136) (by decide +kernel)) <|
  n_c (s_istore_n (pc := 137) (k := 2) (by decide +kernel)) <|
  n_c (s_goto (pc := 138) (off := -95) (by decide +kernel) (by decide +kernel)) <|
  n_c (s_iconst (pc := 141) (n := 0) (by decide +kernel) (by decide +kernel)) <|
  n_c (s_istore_n (pc := 142) (k := 2) (by decide +kernel)) <|
  n_c (s_iload_n (pc := 143) (k := 2) (by decide +kernel)) <|
  n_c (s_bipush (pc := 144) (n := 12) (by decide +kernel) (by decide +kernel)) <|
  n_c (s_icmp_ge (pc := 146) (off := 14) (by decide +kernel) (by decide +kernel)) <|
  n_c (s_aload_n (pc := 149) (k := 0) (by decide +kernel)) <|
  n_c (s_iload_n (pc := 150) (k := 2) (by decide +kernel)) <|
  n_c (s_callVc (s_callV (pc := 151) (csX12_fallsOut N hG) (by decide) okX12_fallsOut nok12 w_1945 w_107 w_1943 (by decide +kernel)) (gk107 hG)) <|
  n_c (s_iinc (pc := 154) (n := 1) (by decide +kernel) (by decide +kernel)) <|
  n_c (s_goto (pc := 157) (off := -14) (by decide +kernel) (by decide +kernel)) <|
  n_c (s_aload_n (pc := 160) (k := 0) (by decide +kernel)) <|
  n_c (s_gRc (s_getR (pc := 161) (ci := 12) (k := 1) (idx := 7) nok12 (by decide) rfl (by decide +kernel) w_1408) (gk107 hG) (gm107_1 hG)) <|
  n_c (s_iconst (pc := 164) (n := 0) (by decide +kernel) (by decide +kernel)) <|
  n_c (s_aload_n (pc := 165) (k := 0) (by decide +kernel)) <|
  n_c (s_gRc (s_getR (pc := 166) (ci := 12) (k := 1) (idx := 7) nok12 (by decide) rfl (by decide +kernel) w_1408) (gk107 hG) (gm107_1 hG)) <|
  n_c (s_iconst (pc := 169) (n := 0) (by decide +kernel) (by decide +kernel)) <|
  n_c (s_aldc (s_iaload (pc := 170) (by decide +kernel)) (gk108 hG) (gl108 hG)) <|
  n_c (s_iconst (pc := 171) (n := 1) (by decide +kernel) (by decide +kernel)) <|
  n_c (s_iadd (pc := 172) (by decide +kernel)) <|
  n_c (s_iastc (s_iastore (pc := 173) (by decide +kernel)) (gk108 hG) (gl108 hG)) <|
  n_c (s_iload_n (pc := 174) (k := 1) (by decide +kernel)) <|
  n_c (s_iret (pc := 175) rfl (by decide +kernel)) <|
  n_e
def fX12_goesBy_143 (N : Nat) : Nat → Int32 → Int32 → nM → Option (Int32 × nM)
  | 0, _, _, _ => none
  | n + 1, x1, x2, M =>
    if (12 : Int32) ≤ x2 then
      n_chk (n_ib 100 (0 : Int32)) <|
      n_chk (n_ib 100 (0 : Int32)) <|
      let M1 : nM := n_up M 108 (0 : Int32).toNatClampNeg ((M 108 (0 : Int32).toNatClampNeg) + (1 : Int32))
      some (x1, M1)
    else
      (fX12_fallsOut N x2 M).bind fun p2 =>
      let v3 : Int32 := (x2 + (1 : Int32))
      fX12_goesBy_143 N n x1 v3 p2.2
set_option maxRecDepth 200000 in
theorem bX12_goesBy_143 {l : Launch} {w : nW} (N : Nat) {G : nG} (hG : n_GOK G) : ∀ (n : Nat) (x1 : Int32) (x2 : Int32) (M : nM) (r : Int32 × nM), fX12_goesBy_143 N n x1 x2 M = some r → n_At l w 7 mX12_goesBy 143 [(0, .ref 107), (1, .int x1), (2, .int x2)] [] (G, M) (dv_i r.1, (G, r.2)) := by
  intro n
  induction n with
  | zero => intro x1 x2 M r h; cases (show (none : Option (Int32 × nM)) = some r from h)
  | succ n ih =>
    intro x1 x2 M r h
    exact n_seg (fin := n_fin dv_i G) (K := [(143, fun lv st M => n_lC 107 lv 0 (n_lI lv 1 (fun x1 => n_lI lv 2 (fun x2 => n_pE st (fX12_goesBy_143 N n x1 x2 M)))))]) 23 (iX12_goesBy N hG) (n_kc (fun lv st M r h => by
      obtain ⟨e0, h1⟩ := n_lC_x h
      obtain ⟨x1, e1, h2⟩ := n_lI_x h1
      obtain ⟨x2, e2, h3⟩ := n_lI_x h2
      obtain ⟨rfl, h4⟩ := n_pE_x h3
      exact n_sub (n_qc e0 (n_qc e1 (n_qc e2 n_qe))) (ih x1 x2 M r h4)) n_ke) (by rfl) h
def fX12_goesBy_43 (N : Nat) : Nat → Int32 → Int32 → nM → Option (Int32 × nM)
  | 0, _, _, _ => none
  | n + 1, x1, x2, M =>
    if ((4 : Int32) * (M 107 37)) ≤ x2 then
      fX12_goesBy_143 N N x1 (0 : Int32) M
    else
      n_chk (n_ib 128 x2) <|
      n_chk (n_ib 100 (0 : Int32)) <|
      if ¬ (M 127 x2.toNatClampNeg) = (M 108 (0 : Int32).toNatClampNeg) then
        let v1 : Int32 := (x2 + (4 : Int32))
        fX12_goesBy_43 N n x1 v1 M
      else
        n_chk (n_ib 128 (x2 + (1 : Int32))) <|
        n_chk (n_ib 128 (x2 + (2 : Int32))) <|
        n_chk (n_ib 128 (x2 + (3 : Int32))) <|
        (fX12_canPut N (M 127 (x2 + (1 : Int32)).toNatClampNeg) (M 127 (x2 + (2 : Int32)).toNatClampNeg) (M 127 (x2 + (3 : Int32)).toNatClampNeg) M).bind fun p2 =>
        if p2.1 = 0 then
          let v3 : Int32 := (x2 + (4 : Int32))
          fX12_goesBy_43 N n x1 v3 p2.2
        else
          n_chk (n_ib 128 (x2 + (1 : Int32))) <|
          n_chk (n_ib 128 (x2 + (2 : Int32))) <|
          n_chk (n_ib 128 (x2 + (3 : Int32))) <|
          (fX12_isPut N (p2.2 127 (x2 + (1 : Int32)).toNatClampNeg) (p2.2 127 (x2 + (2 : Int32)).toNatClampNeg) (p2.2 127 (x2 + (3 : Int32)).toNatClampNeg) p2.2).bind fun p4 =>
          if p4.1 = 0 then
            let v5 : Int32 := (x2 + (4 : Int32))
            fX12_goesBy_43 N n x1 v5 p4.2
          else
            let v6 : Int32 := (x1 + (1 : Int32))
            let v7 : Int32 := (x2 + (4 : Int32))
            fX12_goesBy_43 N n v6 v7 p4.2
set_option maxRecDepth 200000 in
theorem bX12_goesBy_43 {l : Launch} {w : nW} (N : Nat) {G : nG} (hG : n_GOK G) : ∀ (n : Nat) (x1 : Int32) (x2 : Int32) (M : nM) (r : Int32 × nM), fX12_goesBy_43 N n x1 x2 M = some r → n_At l w 7 mX12_goesBy 43 [(0, .ref 107), (1, .int x1), (2, .int x2)] [] (G, M) (dv_i r.1, (G, r.2)) := by
  intro n
  induction n with
  | zero => intro x1 x2 M r h; cases (show (none : Option (Int32 × nM)) = some r from h)
  | succ n ih =>
    intro x1 x2 M r h
    exact n_seg (fin := n_fin dv_i G) (K := [(43, fun lv st M => n_lC 107 lv 0 (n_lI lv 1 (fun x1 => n_lI lv 2 (fun x2 => n_pE st (fX12_goesBy_43 N n x1 x2 M))))), (143, fun lv st M => n_lC 107 lv 0 (n_lI lv 1 (fun x1 => n_lI lv 2 (fun x2 => n_pE st (fX12_goesBy_143 N N x1 x2 M)))))]) 86 (iX12_goesBy N hG) (n_kc (fun lv st M r h => by
      obtain ⟨e0, h1⟩ := n_lC_x h
      obtain ⟨x1, e1, h2⟩ := n_lI_x h1
      obtain ⟨x2, e2, h3⟩ := n_lI_x h2
      obtain ⟨rfl, h4⟩ := n_pE_x h3
      exact n_sub (n_qc e0 (n_qc e1 (n_qc e2 n_qe))) (ih x1 x2 M r h4)) (n_kc (fun lv st M r h => by
      obtain ⟨e0, h1⟩ := n_lC_x h
      obtain ⟨x1, e1, h2⟩ := n_lI_x h1
      obtain ⟨x2, e2, h3⟩ := n_lI_x h2
      obtain ⟨rfl, h4⟩ := n_pE_x h3
      exact n_sub (n_qc e0 (n_qc e1 (n_qc e2 n_qe))) (bX12_goesBy_143 N hG N x1 x2 M r h4)) n_ke)) (by rfl) h
def fX12_goesBy_2 (N : Nat) : Nat → Int32 → nM → Option (Int32 × nM)
  | 0, _, _ => none
  | n + 1, x1, M =>
    if ((4 : Int32) * (M 107 39)) ≤ x1 then
      fX12_goesBy_43 N N (0 : Int32) (0 : Int32) M
    else
      n_chk (n_ib 128 x1) <|
      n_chk (n_ib 100 (0 : Int32)) <|
      if ¬ (M 128 x1.toNatClampNeg) = (M 108 (0 : Int32).toNatClampNeg) then
        let v1 : Int32 := (x1 + (4 : Int32))
        fX12_goesBy_2 N n v1 M
      else
        (fX12_does N x1 M).bind fun p2 =>
        let v3 : Int32 := (x1 + (4 : Int32))
        fX12_goesBy_2 N n v3 p2.2
set_option maxRecDepth 200000 in
theorem bX12_goesBy_2 {l : Launch} {w : nW} (N : Nat) {G : nG} (hG : n_GOK G) : ∀ (n : Nat) (x1 : Int32) (M : nM) (r : Int32 × nM), fX12_goesBy_2 N n x1 M = some r → n_At l w 7 mX12_goesBy 2 [(0, .ref 107), (1, .int x1)] [] (G, M) (dv_i r.1, (G, r.2)) := by
  intro n
  induction n with
  | zero => intro x1 M r h; cases (show (none : Option (Int32 × nM)) = some r from h)
  | succ n ih =>
    intro x1 M r h
    exact n_seg (fin := n_fin dv_i G) (K := [(2, fun lv st M => n_lC 107 lv 0 (n_lI lv 1 (fun x1 => n_pE st (fX12_goesBy_2 N n x1 M)))), (43, fun lv st M => n_lC 107 lv 0 (n_lI lv 1 (fun x1 => n_lI lv 2 (fun x2 => n_pE st (fX12_goesBy_43 N N x1 x2 M)))))]) 35 (iX12_goesBy N hG) (n_kc (fun lv st M r h => by
      obtain ⟨e0, h1⟩ := n_lC_x h
      obtain ⟨x1, e1, h2⟩ := n_lI_x h1
      obtain ⟨rfl, h3⟩ := n_pE_x h2
      exact n_sub (n_qc e0 (n_qc e1 n_qe)) (ih x1 M r h3)) (n_kc (fun lv st M r h => by
      obtain ⟨e0, h1⟩ := n_lC_x h
      obtain ⟨x1, e1, h2⟩ := n_lI_x h1
      obtain ⟨x2, e2, h3⟩ := n_lI_x h2
      obtain ⟨rfl, h4⟩ := n_pE_x h3
      exact n_sub (n_qc e0 (n_qc e1 (n_qc e2 n_qe))) (bX12_goesBy_43 N hG N x1 x2 M r h4)) n_ke)) (by rfl) h
def fX12_goesBy (N : Nat) (M : nM) : Option (Int32 × nM) :=
  fX12_goesBy_2 N N (0 : Int32) M
set_option maxRecDepth 200000 in
theorem bX12_goesBy_0 {l : Launch} {w : nW} (N : Nat) {G : nG} (hG : n_GOK G) (M : nM) (r : Int32 × nM) (h : fX12_goesBy N M = some r) : n_At l w 7 mX12_goesBy 0 [(0, .ref 107)] [] (G, M) (dv_i r.1, (G, r.2)) :=
  n_seg (fin := n_fin dv_i G) (K := [(2, fun lv st M => n_lC 107 lv 0 (n_lI lv 1 (fun x1 => n_pE st (fX12_goesBy_2 N N x1 M))))]) 5 (iX12_goesBy N hG) (n_kc (fun lv st M r h => by
      obtain ⟨e0, h1⟩ := n_lC_x h
      obtain ⟨x1, e1, h2⟩ := n_lI_x h1
      obtain ⟨rfl, h3⟩ := n_pE_x h2
      exact n_sub (n_qc e0 (n_qc e1 n_qe)) (bX12_goesBy_2 N hG N x1 M r h3)) n_ke) (by rfl) h
theorem eX12_goesBy {l : Launch} {w : nW} (N : Nat) {G : nG} (hG : n_GOK G) (M : nM) (r : Int32 × nM) (h : fX12_goesBy N M = some r) : n_Met l w 7 mX12_goesBy [.ref 107] (G, M) (dv_i r.1, (G, r.2)) :=
  n_entry (by decide +kernel) rfl (Nat.le_of_ble_eq_true rfl) (n_sub (lv := [(0, .ref 107)]) (n_qc rfl n_qe) (bX12_goesBy_0 N hG M r h))
abbrev hX12_goesBy (N : Nat) : nF := fun T as M k => n_pC 107 as (fun as => n_pE as ((fX12_goesBy N M).bind fun p => k (dv_i p.1) p.2))
theorem csX12_goesBy {l : Launch} {w : nW} (N : Nat) {G : nG} (hG : n_GOK G) : n_CS l w 7 mX12_goesBy G (hX12_goesBy N) := fun T as M k r h => by
  obtain ⟨t0, rfl, h1⟩ := n_pC_x h
  obtain ⟨rfl, hE⟩ := n_pE_x h1
  obtain ⟨p, hp, hk⟩ := Option.bind_eq_some_iff.mp hE
  exact ⟨_, _, eX12_goesBy N hG M p hp, hk⟩
