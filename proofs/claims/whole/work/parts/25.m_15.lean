/-! ===== SleightHouseModel.share(I)I ===== -/
def mX12_share : nY := (RX12, yX12_share, cX12_share, 2, some .int)
theorem okX12_share : n_MOK mX12_share 1 := ⟨w_2140, w_151, ⟨by decide +kernel, by decide +kernel, by decide +kernel⟩, by decide⟩
abbrev aX12_share : List (Nat × nO (Int32 × nM)) := [(0, o_aload 0 1), (1, o_push (.int (0 : Int32)) 2), (2, o_pIc 107 0 5), (5, o_iload 1 6), (6, o_push (.int (-1 : Int32)) 7), (7, oc_ne 17 10), (10, o_aload 0 11), (11, o_push (.int (0 : Int32)) 12), (12, o_pIc 107 70 15), (15, o_push (.int (0 : Int32)) 16), (16, o_iret), (17, o_aload 0 18), (18, o_iload 1 19), (19, o_push (.int (1 : Int32)) 20), (20, o_push (.int (30 : Int32)) 22), (22, o_callVc 107 3 (hX12_isIn) 25), (25, oi_eq 37 28), (28, o_aload 0 29), (29, o_gIc 107 70 32), (32, o_push (.int (6 : Int32)) 34), (34, oc_ne 39 37), (37, o_push (.int (-1 : Int32)) 38), (38, o_iret), (39, o_aload 0 40), (40, o_gRc 107 148 43), (43, o_aload 0 44), (44, o_gIc 107 70 47), (47, o_iload 1 48), (48, o_iastc 148 6 49), (49, o_aload 0 50), (50, o_aload 0 51), (51, o_gIc 107 70 54), (54, o_push (.int (1 : Int32)) 55), (55, o_iadd 56), (56, o_pIc 107 70 59), (59, o_aload 0 60), (60, o_gIc 107 70 63), (63, o_iret)]
set_option maxRecDepth 200000 in
theorem iX12_share {l : Launch} {w : nW} {G : nG} (hG : n_GOK G) : n_AllS l w 1 mX12_share G (n_fin dv_i G) (aX12_share) :=
  n_c (s_aload_n (pc := 0) (k := 0) (by decide +kernel)) <|
  n_c (s_iconst (pc := 1) (n := 0) (by decide +kernel) (by decide +kernel)) <|
  n_c (s_pIc (s_putI (pc := 2) (ci := 12) (k := 0) (idx := 146) nok12 (by decide) rfl rfl (by decide +kernel) w_1407) (gk107 hG)) <|
  n_c (s_iload_n (pc := 5) (k := 1) (by decide +kernel)) <|
  n_c (s_iconst (pc := 6) (n := -1) (by decide +kernel) (by decide +kernel)) <|
  n_c (s_icmp_ne (pc := 7) (off := 10) (by decide +kernel) (by decide +kernel)) <|
  n_c (s_aload_n (pc := 10) (k := 0) (by decide +kernel)) <|
  n_c (s_iconst (pc := 11) (n := 0) (by decide +kernel) (by decide +kernel)) <|
  n_c (s_pIc (s_putI (pc := 12) (ci := 12) (k := 70) (idx := 499) nok12 (by decide) rfl rfl (by decide +kernel) w_1477) (gk107 hG)) <|
  n_c (s_iconst (pc := 15) (n := 0) (by decide +kernel) (by decide +kernel)) <|
  n_c (s_iret (pc := 16) rfl (by decide +kernel)) <|
  n_c (s_aload_n (pc := 17) (k := 0) (by decide +kernel)) <|
  n_c (s_iload_n (pc := 18) (k := 1) (by decide +kernel)) <|
  n_c (s_iconst (pc := 19) (n := 1) (by decide +kernel) (by decide +kernel)) <|
  n_c (s_bipush (pc := 20) (n := 30) (by decide +kernel) (by decide +kernel)) <|
  n_c (s_callVc (s_callV (pc := 22) (csX12_isIn) (by decide) okX12_isIn nok12 w_1659 w_46 w_1657 (by decide +kernel)) (gk107 hG)) <|
  n_c (s_if_eq (pc := 25) (off := 12) (by decide +kernel) (by decide +kernel)) <|
  n_c (s_aload_n (pc := 28) (k := 0) (by decide +kernel)) <|
  n_c (s_gIc (s_getI (pc := 29) (ci := 12) (k := 70) (idx := 499) nok12 (by decide) rfl (by decide +kernel) w_1477) (gk107 hG)) <|
  n_c (s_bipush (pc := 32) (n := 6) (by decide +kernel) (by decide +kernel)) <|
  n_c (s_icmp_ne (pc := 34) (off := 5) (by decide +kernel) (by decide +kernel)) <|
  n_c (s_iconst (pc := 37) (n := -1) (by decide +kernel) (by decide +kernel)) <|
  n_c (s_iret (pc := 38) rfl (by decide +kernel)) <|
  n_c (s_aload_n (pc := 39) (k := 0) (by decide +kernel)) <|
  n_c (s_gRc (s_getR (pc := 40) (ci := 12) (k := 71) (idx := 134) nok12 (by decide) rfl (by decide +kernel) w_1478) (gk107 hG) (gm107_71 hG)) <|
  n_c (s_aload_n (pc := 43) (k := 0) (by decide +kernel)) <|
  n_c (s_gIc (s_getI (pc := 44) (ci := 12) (k := 70) (idx := 499) nok12 (by decide) rfl (by decide +kernel) w_1477) (gk107 hG)) <|
  n_c (s_iload_n (pc := 47) (k := 1) (by decide +kernel)) <|
  n_c (s_iastc (s_iastore (pc := 48) (by decide +kernel)) (gk148 hG) (gl148 hG)) <|
  n_c (s_aload_n (pc := 49) (k := 0) (by decide +kernel)) <|
  n_c (s_aload_n (pc := 50) (k := 0) (by decide +kernel)) <|
  n_c (s_gIc (s_getI (pc := 51) (ci := 12) (k := 70) (idx := 499) nok12 (by decide) rfl (by decide +kernel) w_1477) (gk107 hG)) <|
  n_c (s_iconst (pc := 54) (n := 1) (by decide +kernel) (by decide +kernel)) <|
  n_c (s_iadd (pc := 55) (by decide +kernel)) <|
  n_c (s_pIc (s_putI (pc := 56) (ci := 12) (k := 70) (idx := 499) nok12 (by decide) rfl rfl (by decide +kernel) w_1477) (gk107 hG)) <|
  n_c (s_aload_n (pc := 59) (k := 0) (by decide +kernel)) <|
  n_c (s_gIc (s_getI (pc := 60) (ci := 12) (k := 70) (idx := 499) nok12 (by decide) rfl (by decide +kernel) w_1477) (gk107 hG)) <|
  n_c (s_iret (pc := 63) rfl (by decide +kernel)) <|
  n_e
def fX12_share (x1 : Int32) (M : nM) : Option (Int32 × nM) :=
  let M1 : nM := n_up M 107 0 (0 : Int32)
  if ¬ x1 = (-1 : Int32) then
    (fX12_isIn x1 (1 : Int32) (30 : Int32) M1).bind fun p2 =>
    if p2.1 = 0 then
      some ((-1 : Int32), p2.2)
    else
      if ¬ (p2.2 107 70) = (6 : Int32) then
        n_chk (n_ib 6 (p2.2 107 70)) <|
        let M3 : nM := n_up p2.2 148 (p2.2 107 70).toNatClampNeg x1
        let M4 : nM := n_up M3 107 70 ((M3 107 70) + (1 : Int32))
        some ((M4 107 70), M4)
      else
        some ((-1 : Int32), p2.2)
  else
    let M5 : nM := n_up M1 107 70 (0 : Int32)
    some ((0 : Int32), M5)
set_option maxRecDepth 200000 in
theorem bX12_share_0 {l : Launch} {w : nW} {G : nG} (hG : n_GOK G) (x1 : Int32) (M : nM) (r : Int32 × nM) (h : fX12_share x1 M = some r) : n_At l w 1 mX12_share 0 [(0, .ref 107), (1, .int x1)] [] (G, M) (dv_i r.1, (G, r.2)) :=
  n_seg (fin := n_fin dv_i G) (K := []) 43 (iX12_share hG) n_ke (by rfl) h
theorem eX12_share {l : Launch} {w : nW} {G : nG} (hG : n_GOK G) (z1 : Int32) (M : nM) (r : Int32 × nM) (h : fX12_share z1 M = some r) : n_Met l w 1 mX12_share [.ref 107, .int z1] (G, M) (dv_i r.1, (G, r.2)) :=
  n_entry (by decide +kernel) rfl (Nat.le_of_ble_eq_true rfl) (n_sub (lv := [(0, .ref 107), (1, .int z1)]) (n_qc rfl (n_qc rfl n_qe)) (bX12_share_0 hG z1 M r h))
abbrev hX12_share : nF := fun T as M k => n_pC 107 as (fun as => n_pI as (fun z1 as => n_pE as ((fX12_share z1 M).bind fun p => k (dv_i p.1) p.2)))
theorem csX12_share {l : Launch} {w : nW} {G : nG} (hG : n_GOK G) : n_CS l w 1 mX12_share G (hX12_share) := fun T as M k r h => by
  obtain ⟨t0, rfl, h1⟩ := n_pC_x h
  obtain ⟨z1, t1, rfl, h2⟩ := n_pI_x h1
  obtain ⟨rfl, hE⟩ := n_pE_x h2
  obtain ⟨p, hp, hk⟩ := Option.bind_eq_some_iff.mp hE
  exact ⟨_, _, eX12_share hG z1 M p hp, hk⟩
/-! ===== SleightHouse$Thought.inherited(II)I ===== -/
def mX9_inherited : nY := (RX9, yX9_inherited, cX9_inherited, 9, some .int)
theorem okX9_inherited : n_MOK mX9_inherited 2 := ⟨w_1350, w_149, ⟨by decide +kernel, by decide +kernel, by decide +kernel⟩, by decide⟩
abbrev aX9_inherited (N : Nat) (G : nG) : List (Nat × nO (Int32 × nM)) := [(0, o_push (.int (0 : Int32)) 1), (1, o_istore 9 3 2), (2, o_push (.int (0 : Int32)) 3), (3, o_istore 9 4 5), (5, o_iload 4 7), (7, o_aload 0 8), (8, o_gRc 98 28 11), (11, o_gRc 28 39 14), (14, o_gIc 39 3 17), (17, oc_ge 42 20), (20, o_iload 3 21), (21, o_aload 0 22), (22, o_gRc 98 28 25), (25, o_gRc 28 39 28), (28, o_iload 4 30), (30, o_push (.int (0 : Int32)) 31), (31, o_callVc 39 2 (hX7_cell G) 34), (34, o_iadd 35), (35, o_istore 9 3 36), (36, o_inc 9 4 (1 : Int32) 39), (39, o_goto 5), (42, o_iload 3 43), (43, oi_gt 48 46), (46, o_push (.int (-1 : Int32)) 47), (47, o_iret), (48, o_iload 1 49), (49, o_aload 0 50), (50, o_gRc 98 28 53), (53, o_gRc 28 39 56), (56, o_iload 2 57), (57, o_push (.int (0 : Int32)) 58), (58, o_callVc 39 2 (hX7_cell G) 61), (61, o_imul 62), (62, o_istore 9 4 64), (64, o_iload 1 65), (65, o_istore 9 5 67), (67, o_push (.int (0 : Int32)) 68), (68, o_istore 9 6 70), (70, o_push (.int (0 : Int32)) 71), (71, o_istore 9 7 73), (73, o_iload 7 75), (75, o_aload 0 76), (76, o_gRc 98 28 79), (79, o_gRc 28 39 82), (82, o_gIc 39 3 85), (85, oc_ge 151 88), (88, o_iload 1 89), (89, o_aload 0 90), (90, o_gRc 98 28 93), (93, o_gRc 28 39 96), (96, o_iload 7 98), (98, o_push (.int (0 : Int32)) 99), (99, o_callVc 39 2 (hX7_cell G) 102), (102, o_imul 103), (103, o_istore 9 8 105), (105, o_iload 5 107), (107, o_iload 8 109), (109, o_iload 3 110), (110, o_idiv 111), (111, o_isub 112), (112, o_istore 9 5 114), (114, o_iload 8 116), (116, o_iload 3 117), (117, o_irem 118), (118, o_iload 4 120), (120, o_iload 3 121), (121, o_irem 122), (122, oc_gt 142 125), (125, o_iload 8 127), (127, o_iload 3 128), (128, o_irem 129), (129, o_iload 4 131), (131, o_iload 3 132), (132, o_irem 133), (133, oc_ne 145 136), (136, o_iload 7 138), (138, o_iload 2 139), (139, oc_ge 145 142), (142, o_inc 9 6 (1 : Int32) 145), (145, o_inc 9 7 (1 : Int32) 148), (148, o_goto 73), (151, o_iload 4 153), (153, o_iload 3 154), (154, o_idiv 155), (155, o_iload 6 157), (157, o_iload 5 159), (159, oc_ge 166 162), (162, o_push (.int (1 : Int32)) 163), (163, o_goto 167), (166, o_push (.int (0 : Int32)) 167), (167, o_iadd 168), (168, o_iret)]
set_option maxRecDepth 200000 in
theorem iX9_inherited {l : Launch} {w : nW} (N : Nat) {G : nG} (hG : n_GOK G) : n_AllS l w 1 mX9_inherited G (n_fin dv_i G) (aX9_inherited N G) :=
  n_c (s_iconst (pc := 0) (n := 0) (by decide +kernel) (by decide +kernel)) <|
  n_c (s_istore_n (pc := 1) (k := 3) (by decide +kernel)) <|
  n_c (s_iconst (pc := 2) (n := 0) (by decide +kernel) (by decide +kernel)) <|
  n_c (s_istore (pc := 3) (by decide +kernel)) <|
  n_c (s_iload (pc := 5) (by decide +kernel)) <|
  n_c (s_aload_n (pc := 7) (k := 0) (by decide +kernel)) <|
  n_c (s_gRc (s_getR (pc := 8) (ci := 9) (k := 0) (idx := 18) nok9 (by decide) rfl (by decide +kernel) w_537) (gk98 hG) (gm98_0 hG)) <|
  n_c (s_gRc (s_getR (pc := 11) (ci := 10) (k := 5) (idx := 104) nok10 (by decide) rfl (by decide +kernel) w_373) (gk28 hG) (gm28_5 hG)) <|
  n_c (s_gIc (s_getI (pc := 14) (ci := 7) (k := 3) (idx := 28) nok7 (by decide) rfl (by decide +kernel) w_304) (gk39 hG)) <|
  n_c (s_icmp_ge (pc := 17) (off := 25) (by decide +kernel) (by decide +kernel)) <|
  n_c (s_iload_n (pc := 20) (k := 3) (by decide +kernel)) <|
  n_c (s_aload_n (pc := 21) (k := 0) (by decide +kernel)) <|
  n_c (s_gRc (s_getR (pc := 22) (ci := 9) (k := 0) (idx := 18) nok9 (by decide) rfl (by decide +kernel) w_537) (gk98 hG) (gm98_0 hG)) <|
  n_c (s_gRc (s_getR (pc := 25) (ci := 10) (k := 5) (idx := 104) nok10 (by decide) rfl (by decide +kernel) w_373) (gk28 hG) (gm28_5 hG)) <|
  n_c (s_iload (pc := 28) (by decide +kernel)) <|
  n_c (s_iconst (pc := 30) (n := 0) (by decide +kernel) (by decide +kernel)) <|
  n_c (s_callVc (s_callV (pc := 31) (csX7_cell) (by decide) okX7_cell nok7 w_786 w_787 w_1145 (by decide +kernel)) (gk39 hG)) <|
  n_c (s_iadd (pc := 34) (by decide +kernel)) <|
  n_c (s_istore_n (pc := 35) (k := 3) (by decide +kernel)) <|
  n_c (s_iinc (pc := 36) (n := 1) (by decide +kernel) (by decide +kernel)) <|
  n_c (s_goto (pc := 39) (off := -34) (by decide +kernel) (by decide +kernel)) <|
  n_c (s_iload_n (pc := 42) (k := 3) (by decide +kernel)) <|
  n_c (s_if_gt (pc := 43) (off := 5) (by decide +kernel) (by decide +kernel)) <|
  n_c (s_iconst (pc := 46) (n := -1) (by decide +kernel) (by decide +kernel)) <|
  n_c (s_iret (pc := 47) rfl (by decide +kernel)) <|
  n_c (s_iload_n (pc := 48) (k := 1) (by decide +kernel)) <|
  n_c (s_aload_n (pc := 49) (k := 0) (by decide +kernel)) <|
  n_c (s_gRc (s_getR (pc := 50) (ci := 9) (k := 0) (idx := 18) nok9 (by decide) rfl (by decide +kernel) w_537) (gk98 hG) (gm98_0 hG)) <|
  n_c (s_gRc (s_getR (pc := 53) (ci := 10) (k := 5) (idx := 104) nok10 (by decide) rfl (by decide +kernel) w_373) (gk28 hG) (gm28_5 hG)) <|
  n_c (s_iload_n (pc := 56) (k := 2) (by decide +kernel)) <|
  n_c (s_iconst (pc := 57) (n := 0) (by decide +kernel) (by decide +kernel)) <|
  n_c (s_callVc (s_callV (pc := 58) (csX7_cell) (by decide) okX7_cell nok7 w_786 w_787 w_1145 (by decide +kernel)) (gk39 hG)) <|
  n_c (s_imul (pc := 61) (by decide +kernel)) <|
  n_c (s_istore (pc := 62) (by decide +kernel)) <|
  n_c (s_iload_n (pc := 64) (k := 1) (by decide +kernel)) <|
  n_c (s_istore (pc := 65) (by decide +kernel)) <|
  n_c (s_iconst (pc := 67) (n := 0) (by decide +kernel) (by decide +kernel)) <|
  n_c (s_istore (pc := 68) (by decide +kernel)) <|
  n_c (s_iconst (pc := 70) (n := 0) (by decide +kernel) (by decide +kernel)) <|
  n_c (s_istore (pc := 71) (by decide +kernel)) <|
  n_c (s_iload (pc := 73) (by decide +kernel)) <|
  n_c (s_aload_n (pc := 75) (k := 0) (by decide +kernel)) <|
  n_c (s_gRc (s_getR (pc := 76) (ci := 9) (k := 0) (idx := 18) nok9 (by decide) rfl (by decide +kernel) w_537) (gk98 hG) (gm98_0 hG)) <|
  n_c (s_gRc (s_getR (pc := 79) (ci := 10) (k := 5) (idx := 104) nok10 (by decide) rfl (by decide +kernel) w_373) (gk28 hG) (gm28_5 hG)) <|
  n_c (s_gIc (s_getI (pc := 82) (ci := 7) (k := 3) (idx := 28) nok7 (by decide) rfl (by decide +kernel) w_304) (gk39 hG)) <|
  n_c (s_icmp_ge (pc := 85) (off := 66) (by decide +kernel) (by decide +kernel)) <|
  n_c (s_iload_n (pc := 88) (k := 1) (by decide +kernel)) <|
  n_c (s_aload_n (pc := 89) (k := 0) (by decide +kernel)) <|
  n_c (s_gRc (s_getR (pc := 90) (ci := 9) (k := 0) (idx := 18) nok9 (by decide) rfl (by decide +kernel) w_537) (gk98 hG) (gm98_0 hG)) <|
  n_c (s_gRc (s_getR (pc := 93) (ci := 10) (k := 5) (idx := 104) nok10 (by decide) rfl (by decide +kernel) w_373) (gk28 hG) (gm28_5 hG)) <|
  n_c (s_iload (pc := 96) (by decide +kernel)) <|
  n_c (s_iconst (pc := 98) (n := 0) (by decide +kernel) (by decide +kernel)) <|
  n_c (s_callVc (s_callV (pc := 99) (csX7_cell) (by decide) okX7_cell nok7 w_786 w_787 w_1145 (by decide +kernel)) (gk39 hG)) <|
  n_c (s_imul (pc := 102) (by decide +kernel)) <|
  n_c (s_istore (pc := 103) (by decide +kernel)) <|
  n_c (s_iload (pc := 105) (by decide +kernel)) <|
  n_c (s_iload (pc := 107) (by decide +kernel)) <|
  n_c (s_iload_n (pc := 109) (k := 3) (by decide +kernel)) <|
  n_c (s_idiv (pc := 110) (by decide +kernel)) <|
  n_c (s_isub (pc := 111) (by decide +kernel)) <|
  n_c (s_istore (pc := 112) (by decide +kernel)) <|
  n_c (s_iload (pc := 114) (by decide +kernel)) <|
  n_c (s_iload_n (pc := 116) (k := 3) (by decide +kernel)) <|
  n_c (s_irem (pc := 117) (by decide +kernel)) <|
  n_c (s_iload (pc := 118) (by decide +kernel)) <|
  n_c (s_iload_n (pc := 120) (k := 3) (by decide +kernel)) <|
  n_c (s_irem (pc := 121) (by decide +kernel)) <|
  n_c (s_icmp_gt (pc := 122) (off := 20) (by decide +kernel) (by decide +kernel)) <|
  n_c (s_iload (pc := 125) (by decide +kernel)) <|
  n_c (s_iload_n (pc := 127) (k := 3) (by decide +kernel)) <|
  n_c (s_irem (pc := 128) (by decide +kernel)) <|
  n_c (s_iload (pc := 129) (by decide +kernel)) <|
  n_c (s_iload_n (pc := 131) (k := 3) (by decide +kernel)) <|
  n_c (s_irem (pc := 132) (by decide +kernel)) <|
  n_c (s_icmp_ne (pc := 133) (off := 12) (by decide +kernel) (by decide +kernel)) <|
  n_c (s_iload (pc := 136) (by decide +kernel)) <|
  n_c (s_iload_n (pc := 138) (k := 2) (by decide +kernel)) <|
  n_c (s_icmp_ge (pc := 139) (off := 6) (by decide +kernel) (by decide +kernel)) <|
  n_c (s_iinc (pc := 142) (n := 1) (by decide +kernel) (by decide +kernel)) <|
  n_c (s_iinc (pc := 145) (n := 1) (by decide +kernel) (by decide +kernel)) <|
  n_c (s_goto (pc := 148) (off := -75) (by decide +kernel) (by decide +kernel)) <|
  n_c (s_iload (pc := 151) (by decide +kernel)) <|
  n_c (s_iload_n (pc := 153) (k := 3) (by decide +kernel)) <|
  n_c (s_idiv (pc := 154) (by decide +kernel)) <|
  n_c (s_iload (pc := 155) (by decide +kernel)) <|
  n_c (s_iload (pc := 157) (by decide +kernel)) <|
  n_c (s_icmp_ge (pc := 159) (off := 7) (by decide +kernel) (by decide +kernel)) <|
  n_c (s_iconst (pc := 162) (n := 1) (by decide +kernel) (by decide +kernel)) <|
  n_c (s_goto (pc := 163) (off := 4) (by decide +kernel) (by decide +kernel)) <|
  n_c (s_iconst (pc := 166) (n := 0) (by decide +kernel) (by decide +kernel)) <|
  n_c (s_iadd (pc := 167) (by decide +kernel)) <|
  n_c (s_iret (pc := 168) rfl (by decide +kernel)) <|
  n_e
def fX9_inherited_73 (N : Nat) (G : nG) : Nat → Int32 → Int32 → Int32 → Int32 → Int32 → Int32 → Int32 → nM → Option (Int32 × nM)
  | 0, _, _, _, _, _, _, _, _ => none
  | n + 1, x1, x2, x3, x4, x5, x6, x7, M =>
    if (M 39 3) ≤ x7 then
      if x3 = 0 then none else
      if x5 ≤ x6 then
        some (((x4 / x3) + (0 : Int32)), M)
      else
        some (((x4 / x3) + (1 : Int32)), M)
    else
      (fX7_cell G 39 x7 (0 : Int32) M).bind fun p1 =>
      let v2 : Int32 := (x1 * p1.1)
      if x3 = 0 then none else
      let v3 : Int32 := (x5 - (v2 / x3))
      if x3 = 0 then none else
      if x3 = 0 then none else
      if (x4 - x4 / x3 * x3) < (v2 - v2 / x3 * x3) then
        let v4 : Int32 := (x6 + (1 : Int32))
        let v5 : Int32 := (x7 + (1 : Int32))
        fX9_inherited_73 N G n x1 x2 x3 x4 v3 v4 v5 p1.2
      else
        if x3 = 0 then none else
        if x3 = 0 then none else
        if ¬ (v2 - v2 / x3 * x3) = (x4 - x4 / x3 * x3) then
          let v6 : Int32 := (x7 + (1 : Int32))
          fX9_inherited_73 N G n x1 x2 x3 x4 v3 x6 v6 p1.2
        else
          if x2 ≤ x7 then
            let v7 : Int32 := (x7 + (1 : Int32))
            fX9_inherited_73 N G n x1 x2 x3 x4 v3 x6 v7 p1.2
          else
            let v8 : Int32 := (x6 + (1 : Int32))
            let v9 : Int32 := (x7 + (1 : Int32))
            fX9_inherited_73 N G n x1 x2 x3 x4 v3 v8 v9 p1.2
set_option maxRecDepth 200000 in
theorem bX9_inherited_73 {l : Launch} {w : nW} (N : Nat) {G : nG} (hG : n_GOK G) : ∀ (n : Nat) (x1 : Int32) (x2 : Int32) (x3 : Int32) (x4 : Int32) (x5 : Int32) (x6 : Int32) (x7 : Int32) (M : nM) (r : Int32 × nM), fX9_inherited_73 N G n x1 x2 x3 x4 x5 x6 x7 M = some r → n_At l w 1 mX9_inherited 73 [(0, .ref 98), (1, .int x1), (2, .int x2), (3, .int x3), (4, .int x4), (5, .int x5), (6, .int x6), (7, .int x7)] [] (G, M) (dv_i r.1, (G, r.2)) := by
  intro n
  induction n with
  | zero => intro x1 x2 x3 x4 x5 x6 x7 M r h; cases (show (none : Option (Int32 × nM)) = some r from h)
  | succ n ih =>
    intro x1 x2 x3 x4 x5 x6 x7 M r h
    exact n_seg (fin := n_fin dv_i G) (K := [(73, fun lv st M => n_lC 98 lv 0 (n_lI lv 1 (fun x1 => n_lI lv 2 (fun x2 => n_lI lv 3 (fun x3 => n_lI lv 4 (fun x4 => n_lI lv 5 (fun x5 => n_lI lv 6 (fun x6 => n_lI lv 7 (fun x7 => n_pE st (fX9_inherited_73 N G n x1 x2 x3 x4 x5 x6 x7 M))))))))))]) 64 (iX9_inherited N hG) (n_kc (fun lv st M r h => by
      obtain ⟨e0, h1⟩ := n_lC_x h
      obtain ⟨x1, e1, h2⟩ := n_lI_x h1
      obtain ⟨x2, e2, h3⟩ := n_lI_x h2
      obtain ⟨x3, e3, h4⟩ := n_lI_x h3
      obtain ⟨x4, e4, h5⟩ := n_lI_x h4
      obtain ⟨x5, e5, h6⟩ := n_lI_x h5
      obtain ⟨x6, e6, h7⟩ := n_lI_x h6
      obtain ⟨x7, e7, h8⟩ := n_lI_x h7
      obtain ⟨rfl, h9⟩ := n_pE_x h8
      exact n_sub (n_qc e0 (n_qc e1 (n_qc e2 (n_qc e3 (n_qc e4 (n_qc e5 (n_qc e6 (n_qc e7 n_qe)))))))) (ih x1 x2 x3 x4 x5 x6 x7 M r h9)) n_ke) (by rfl) h
def fX9_inherited_5 (N : Nat) (G : nG) : Nat → Int32 → Int32 → Int32 → Int32 → nM → Option (Int32 × nM)
  | 0, _, _, _, _, _ => none
  | n + 1, x1, x2, x3, x4, M =>
    if (M 39 3) ≤ x4 then
      if 0 < x3 then
        (fX7_cell G 39 x2 (0 : Int32) M).bind fun p1 =>
        let v2 : Int32 := (x1 * p1.1)
        fX9_inherited_73 N G N x1 x2 x3 v2 x1 (0 : Int32) (0 : Int32) p1.2
      else
        some ((-1 : Int32), M)
    else
      (fX7_cell G 39 x4 (0 : Int32) M).bind fun p3 =>
      let v4 : Int32 := (x3 + p3.1)
      let v5 : Int32 := (x4 + (1 : Int32))
      fX9_inherited_5 N G n x1 x2 v4 v5 p3.2
set_option maxRecDepth 200000 in
theorem bX9_inherited_5 {l : Launch} {w : nW} (N : Nat) {G : nG} (hG : n_GOK G) : ∀ (n : Nat) (x1 : Int32) (x2 : Int32) (x3 : Int32) (x4 : Int32) (M : nM) (r : Int32 × nM), fX9_inherited_5 N G n x1 x2 x3 x4 M = some r → n_At l w 1 mX9_inherited 5 [(0, .ref 98), (1, .int x1), (2, .int x2), (3, .int x3), (4, .int x4)] [] (G, M) (dv_i r.1, (G, r.2)) := by
  intro n
  induction n with
  | zero => intro x1 x2 x3 x4 M r h; cases (show (none : Option (Int32 × nM)) = some r from h)
  | succ n ih =>
    intro x1 x2 x3 x4 M r h
    exact n_seg (fin := n_fin dv_i G) (K := [(5, fun lv st M => n_lC 98 lv 0 (n_lI lv 1 (fun x1 => n_lI lv 2 (fun x2 => n_lI lv 3 (fun x3 => n_lI lv 4 (fun x4 => n_pE st (fX9_inherited_5 N G n x1 x2 x3 x4 M))))))), (73, fun lv st M => n_lC 98 lv 0 (n_lI lv 1 (fun x1 => n_lI lv 2 (fun x2 => n_lI lv 3 (fun x3 => n_lI lv 4 (fun x4 => n_lI lv 5 (fun x5 => n_lI lv 6 (fun x6 => n_lI lv 7 (fun x7 => n_pE st (fX9_inherited_73 N G N x1 x2 x3 x4 x5 x6 x7 M))))))))))]) 39 (iX9_inherited N hG) (n_kc (fun lv st M r h => by
      obtain ⟨e0, h1⟩ := n_lC_x h
      obtain ⟨x1, e1, h2⟩ := n_lI_x h1
      obtain ⟨x2, e2, h3⟩ := n_lI_x h2
      obtain ⟨x3, e3, h4⟩ := n_lI_x h3
      obtain ⟨x4, e4, h5⟩ := n_lI_x h4
      obtain ⟨rfl, h6⟩ := n_pE_x h5
      exact n_sub (n_qc e0 (n_qc e1 (n_qc e2 (n_qc e3 (n_qc e4 n_qe))))) (ih x1 x2 x3 x4 M r h6)) (n_kc (fun lv st M r h => by
      obtain ⟨e0, h1⟩ := n_lC_x h
      obtain ⟨x1, e1, h2⟩ := n_lI_x h1
      obtain ⟨x2, e2, h3⟩ := n_lI_x h2
      obtain ⟨x3, e3, h4⟩ := n_lI_x h3
      obtain ⟨x4, e4, h5⟩ := n_lI_x h4
      obtain ⟨x5, e5, h6⟩ := n_lI_x h5
      obtain ⟨x6, e6, h7⟩ := n_lI_x h6
      obtain ⟨x7, e7, h8⟩ := n_lI_x h7
      obtain ⟨rfl, h9⟩ := n_pE_x h8
      exact n_sub (n_qc e0 (n_qc e1 (n_qc e2 (n_qc e3 (n_qc e4 (n_qc e5 (n_qc e6 (n_qc e7 n_qe)))))))) (bX9_inherited_73 N hG N x1 x2 x3 x4 x5 x6 x7 M r h9)) n_ke)) (by rfl) h
def fX9_inherited (N : Nat) (G : nG) (x1 : Int32) (x2 : Int32) (M : nM) : Option (Int32 × nM) :=
  fX9_inherited_5 N G N x1 x2 (0 : Int32) (0 : Int32) M
set_option maxRecDepth 200000 in
theorem bX9_inherited_0 {l : Launch} {w : nW} (N : Nat) {G : nG} (hG : n_GOK G) (x1 : Int32) (x2 : Int32) (M : nM) (r : Int32 × nM) (h : fX9_inherited N G x1 x2 M = some r) : n_At l w 1 mX9_inherited 0 [(0, .ref 98), (1, .int x1), (2, .int x2)] [] (G, M) (dv_i r.1, (G, r.2)) :=
  n_seg (fin := n_fin dv_i G) (K := [(5, fun lv st M => n_lC 98 lv 0 (n_lI lv 1 (fun x1 => n_lI lv 2 (fun x2 => n_lI lv 3 (fun x3 => n_lI lv 4 (fun x4 => n_pE st (fX9_inherited_5 N G N x1 x2 x3 x4 M)))))))]) 7 (iX9_inherited N hG) (n_kc (fun lv st M r h => by
      obtain ⟨e0, h1⟩ := n_lC_x h
      obtain ⟨x1, e1, h2⟩ := n_lI_x h1
      obtain ⟨x2, e2, h3⟩ := n_lI_x h2
      obtain ⟨x3, e3, h4⟩ := n_lI_x h3
      obtain ⟨x4, e4, h5⟩ := n_lI_x h4
      obtain ⟨rfl, h6⟩ := n_pE_x h5
      exact n_sub (n_qc e0 (n_qc e1 (n_qc e2 (n_qc e3 (n_qc e4 n_qe))))) (bX9_inherited_5 N hG N x1 x2 x3 x4 M r h6)) n_ke) (by rfl) h
theorem eX9_inherited {l : Launch} {w : nW} (N : Nat) {G : nG} (hG : n_GOK G) (z1 : Int32) (z2 : Int32) (M : nM) (r : Int32 × nM) (h : fX9_inherited N G z1 z2 M = some r) : n_Met l w 1 mX9_inherited [.ref 98, .int z1, .int z2] (G, M) (dv_i r.1, (G, r.2)) :=
  n_entry (by decide +kernel) rfl (Nat.le_of_ble_eq_true rfl) (n_sub (lv := [(0, .ref 98), (1, .int z1), (2, .int z2)]) (n_qc rfl (n_qc rfl (n_qc rfl n_qe))) (bX9_inherited_0 N hG z1 z2 M r h))
abbrev hX9_inherited (N : Nat) (G : nG) : nF := fun T as M k => n_pC 98 as (fun as => n_pI as (fun z1 as => n_pI as (fun z2 as => n_pE as ((fX9_inherited N G z1 z2 M).bind fun p => k (dv_i p.1) p.2))))
theorem csX9_inherited {l : Launch} {w : nW} (N : Nat) {G : nG} (hG : n_GOK G) : n_CS l w 1 mX9_inherited G (hX9_inherited N G) := fun T as M k r h => by
  obtain ⟨t0, rfl, h1⟩ := n_pC_x h
  obtain ⟨z1, t1, rfl, h2⟩ := n_pI_x h1
  obtain ⟨z2, t2, rfl, h3⟩ := n_pI_x h2
  obtain ⟨rfl, hE⟩ := n_pE_x h3
  obtain ⟨p, hp, hk⟩ := Option.bind_eq_some_iff.mp hE
  exact ⟨_, _, eX9_inherited N hG z1 z2 M p hp, hk⟩
/-! ===== SleightHouse.gets(II)I ===== -/
def mX11_gets : nY := (RX11, yX11_gets, cX11_gets, 3, some .int)
theorem okX11_gets : n_MOK mX11_gets 2 := ⟨w_1346, w_137, ⟨by decide +kernel, by decide +kernel, by decide +kernel⟩, by decide⟩
abbrev aX11_gets (N : Nat) (G : nG) : List (Nat × nO (Int32 × nM)) := [(0, o_iload 1 1), (1, o_push (.int (0 : Int32)) 2), (2, o_push (.int (9999 : Int32)) 5), (5, o_call 3 (hX11_within) 8), (8, oi_eq 34 11), (11, o_iload 2 12), (12, o_push (.int (0 : Int32)) 13), (13, o_aload 0 14), (14, o_gRc 1 2 17), (17, o_gRc 2 28 20), (20, o_gRc 28 39 23), (23, o_gIc 39 3 26), (26, o_push (.int (1 : Int32)) 27), (27, o_isub 28), (28, o_call 3 (hX11_within) 31), (31, oi_ne 36 34), (34, o_push (.int (-1 : Int32)) 35), (35, o_iret), (36, o_aload 0 37), (37, o_gRc 1 98 40), (40, o_iload 1 41), (41, o_iload 2 42), (42, o_callVc 98 2 (hX9_inherited N G) 45), (45, o_iret)]
set_option maxRecDepth 200000 in
theorem iX11_gets {l : Launch} {w : nW} (N : Nat) {G : nG} (hG : n_GOK G) : n_AllS l w 2 mX11_gets G (n_fin dv_i G) (aX11_gets N G) :=
  n_c (s_iload_n (pc := 0) (k := 1) (by decide +kernel)) <|
  n_c (s_iconst (pc := 1) (n := 0) (by decide +kernel) (by decide +kernel)) <|
  n_c (s_sipush (pc := 2) (n := 9999) (by decide +kernel) (by decide +kernel)) <|
  n_c (s_callS (pc := 5) (csX11_within) (by decide) okX11_within w_610 w_609 (by decide +kernel)) <|
  n_c (s_if_eq (pc := 8) (off := 26) (by decide +kernel) (by decide +kernel)) <|
  n_c (s_iload_n (pc := 11) (k := 2) (by decide +kernel)) <|
  n_c (s_iconst (pc := 12) (n := 0) (by decide +kernel) (by decide +kernel)) <|
  n_c (s_aload_n (pc := 13) (k := 0) (by decide +kernel)) <|
  n_c (s_gRc (s_getR (pc := 14) (ci := 11) (k := 0) (idx := 10) nok11 (by decide) rfl (by decide +kernel) w_572) (gk1 hG) (gm1_0 hG)) <|
  n_c (s_gRc (s_getR (pc := 17) (ci := 1) (k := 7) (idx := 56) nok1 (by decide) rfl (by decide +kernel) w_421) (gk2 hG) (gm2_7 hG)) <|
  n_c (s_gRc (s_getR (pc := 20) (ci := 10) (k := 5) (idx := 390) nok10 (by decide) rfl (by decide +kernel) w_374) (gk28 hG) (gm28_5 hG)) <|
  n_c (s_gIc (s_getI (pc := 23) (ci := 7) (k := 3) (idx := 226) nok7 (by decide) rfl (by decide +kernel) w_308) (gk39 hG)) <|
  n_c (s_iconst (pc := 26) (n := 1) (by decide +kernel) (by decide +kernel)) <|
  n_c (s_isub (pc := 27) (by decide +kernel)) <|
  n_c (s_callS (pc := 28) (csX11_within) (by decide) okX11_within w_610 w_609 (by decide +kernel)) <|
  n_c (s_if_ne (pc := 31) (off := 5) (by decide +kernel) (by decide +kernel)) <|
  n_c (s_iconst (pc := 34) (n := -1) (by decide +kernel) (by decide +kernel)) <|
  n_c (s_iret (pc := 35) rfl (by decide +kernel)) <|
  n_c (s_aload_n (pc := 36) (k := 0) (by decide +kernel)) <|
  n_c (s_gRc (s_getR (pc := 37) (ci := 11) (k := 5) (idx := 63) nok11 (by decide) rfl (by decide +kernel) w_577) (gk1 hG) (gm1_5 hG)) <|
  n_c (s_iload_n (pc := 40) (k := 1) (by decide +kernel)) <|
  n_c (s_iload_n (pc := 41) (k := 2) (by decide +kernel)) <|
  n_c (s_callVc (s_callV (pc := 42) (csX9_inherited N hG) (by decide) okX9_inherited nok9 w_1348 w_1349 w_1347 (by decide +kernel)) (gk98 hG)) <|
  n_c (s_iret (pc := 45) rfl (by decide +kernel)) <|
  n_e
def fX11_gets (N : Nat) (G : nG) (x1 : Int32) (x2 : Int32) (M : nM) : Option (Int32 × nM) :=
  (fX11_within x1 (0 : Int32) (9999 : Int32) M).bind fun p1 =>
  if p1.1 = 0 then
    some ((-1 : Int32), p1.2)
  else
    (fX11_within x2 (0 : Int32) ((p1.2 39 3) - (1 : Int32)) p1.2).bind fun p2 =>
    if ¬ p2.1 = 0 then
      (fX9_inherited N G x1 x2 p2.2).bind fun p3 =>
      some (p3.1, p3.2)
    else
      some ((-1 : Int32), p2.2)
set_option maxRecDepth 200000 in
theorem bX11_gets_0 {l : Launch} {w : nW} (N : Nat) {G : nG} (hG : n_GOK G) (x1 : Int32) (x2 : Int32) (M : nM) (r : Int32 × nM) (h : fX11_gets N G x1 x2 M = some r) : n_At l w 2 mX11_gets 0 [(0, .ref 1), (1, .int x1), (2, .int x2)] [] (G, M) (dv_i r.1, (G, r.2)) :=
  n_seg (fin := n_fin dv_i G) (K := []) 29 (iX11_gets N hG) n_ke (by rfl) h
theorem eX11_gets {l : Launch} {w : nW} (N : Nat) {G : nG} (hG : n_GOK G) (z1 : Int32) (z2 : Int32) (M : nM) (r : Int32 × nM) (h : fX11_gets N G z1 z2 M = some r) : n_Met l w 2 mX11_gets [.ref 1, .int z1, .int z2] (G, M) (dv_i r.1, (G, r.2)) :=
  n_entry (by decide +kernel) rfl (Nat.le_of_ble_eq_true rfl) (n_sub (lv := [(0, .ref 1), (1, .int z1), (2, .int z2)]) (n_qc rfl (n_qc rfl (n_qc rfl n_qe))) (bX11_gets_0 N hG z1 z2 M r h))
abbrev hX11_gets (N : Nat) (G : nG) : nF := fun T as M k => n_pC 1 as (fun as => n_pI as (fun z1 as => n_pI as (fun z2 as => n_pE as ((fX11_gets N G z1 z2 M).bind fun p => k (dv_i p.1) p.2))))
theorem csX11_gets {l : Launch} {w : nW} (N : Nat) {G : nG} (hG : n_GOK G) : n_CS l w 2 mX11_gets G (hX11_gets N G) := fun T as M k r h => by
  obtain ⟨t0, rfl, h1⟩ := n_pC_x h
  obtain ⟨z1, t1, rfl, h2⟩ := n_pI_x h1
  obtain ⟨z2, t2, rfl, h3⟩ := n_pI_x h2
  obtain ⟨rfl, hE⟩ := n_pE_x h3
  obtain ⟨p, hp, hk⟩ := Option.bind_eq_some_iff.mp hE
  exact ⟨_, _, eX11_gets N hG z1 z2 M p hp, hk⟩
/-! ===== SleightHouseModel.gets(II)I ===== -/
def mX12_gets : nY := (RX12, yX12_gets, cX12_gets, 8, some .int)
theorem okX12_gets : n_MOK mX12_gets 2 := ⟨w_2144, w_151, ⟨by decide +kernel, by decide +kernel, by decide +kernel⟩, by decide⟩
abbrev aX12_gets (N : Nat) : List (Nat × nO (Int32 × nM)) := [(0, o_aload 0 1), (1, o_push (.int (0 : Int32)) 2), (2, o_pIc 107 0 5), (5, o_aload 0 6), (6, o_iload 1 7), (7, o_push (.int (0 : Int32)) 8), (8, o_push (.int (9999 : Int32)) 11), (11, o_callVc 107 3 (hX12_isIn) 14), (14, oi_eq 32 17), (17, o_aload 0 18), (18, o_iload 2 19), (19, o_push (.int (0 : Int32)) 20), (20, o_aload 0 21), (21, o_gIc 107 70 24), (24, o_push (.int (1 : Int32)) 25), (25, o_isub 26), (26, o_callVc 107 3 (hX12_isIn) 29), (29, oi_ne 34 32), (32, o_push (.int (-1 : Int32)) 33), (33, o_iret), (34, o_push (.int (0 : Int32)) 35), (35, o_istore 8 3 36), (36, o_push (.int (0 : Int32)) 37), (37, o_istore 8 4 39), (39, o_iload 4 41), (41, o_aload 0 42), (42, o_gIc 107 70 45), (45, oc_ge 64 48), (48, o_iload 3 49), (49, o_aload 0 50), (50, o_gRc 107 148 53), (53, o_iload 4 55), (55, o_aldc 148 6 56), (56, o_iadd 57), (57, o_istore 8 3 58), (58, o_inc 8 4 (1 : Int32) 61), (61, o_goto 39), (64, o_iload 1 65), (65, o_istore 8 4 67), (67, o_push (.int (0 : Int32)) 68), (68, o_istore 8 5 70), (70, o_push (.int (0 : Int32)) 71), (71, o_istore 8 6 73), (73, o_iload 6 75), (75, o_aload 0 76), (76, o_gIc 107 70 79), (79, oc_ge 150 82), (82, o_iload 4 84), (84, o_iload 1 85), (85, o_aload 0 86), (86, o_gRc 107 148 89), (89, o_iload 6 91), (91, o_aldc 148 6 92), (92, o_imul 93), (93, o_iload 3 94), (94, o_idiv 95), (95, o_isub 96), (96, o_istore 8 4 98), (98, o_iload 1 99), (99, o_aload 0 100), (100, o_gRc 107 148 103), (103, o_iload 6 105), (105, o_aldc 148 6 106), (106, o_imul 107), (107, o_iload 3 108), (108, o_irem 109), (109, o_iload 1 110), (110, o_aload 0 111), (111, o_gRc 107 148 114), (114, o_iload 2 115), (115, o_aldc 148 6 116), (116, o_imul 117), (117, o_iload 3 118), (118, o_irem 119), (119, o_isub 120), (120, o_istore 8 7 122), (122, o_iload 7 124), (124, oi_gt 138 127), (127, o_iload 7 129), (129, oi_ne 144 132), (132, o_iload 6 134), (134, o_iload 2 135), (135, oc_ge 144 138), (138, o_iload 5 140), (140, o_push (.int (1 : Int32)) 141), (141, o_iadd 142), (142, o_istore 8 5 144), (144, o_inc 8 6 (1 : Int32) 147), (147, o_goto 73), (150, o_iload 1 151), (151, o_aload 0 152), (152, o_gRc 107 148 155), (155, o_iload 2 156), (156, o_aldc 148 6 157), (157, o_imul 158), (158, o_iload 3 159), (159, o_idiv 160), (160, o_iload 5 162), (162, o_iload 4 164), (164, oc_ge 171 167), (167, o_push (.int (1 : Int32)) 168), (168, o_goto 172), (171, o_push (.int (0 : Int32)) 172), (172, o_iadd 173), (173, o_iret)]
set_option maxRecDepth 200000 in
theorem iX12_gets {l : Launch} {w : nW} (N : Nat) {G : nG} (hG : n_GOK G) : n_AllS l w 1 mX12_gets G (n_fin dv_i G) (aX12_gets N) :=
  n_c (s_aload_n (pc := 0) (k := 0) (by decide +kernel)) <|
  n_c (s_iconst (pc := 1) (n := 0) (by decide +kernel) (by decide +kernel)) <|
  n_c (s_pIc (s_putI (pc := 2) (ci := 12) (k := 0) (idx := 146) nok12 (by decide) rfl rfl (by decide +kernel) w_1407) (gk107 hG)) <|
  n_c (s_aload_n (pc := 5) (k := 0) (by decide +kernel)) <|
  n_c (s_iload_n (pc := 6) (k := 1) (by decide +kernel)) <|
  n_c (s_iconst (pc := 7) (n := 0) (by decide +kernel) (by decide +kernel)) <|
  n_c (s_sipush (pc := 8) (n := 9999) (by decide +kernel) (by decide +kernel)) <|
  n_c (s_callVc (s_callV (pc := 11) (csX12_isIn) (by decide) okX12_isIn nok12 w_1659 w_46 w_1657 (by decide +kernel)) (gk107 hG)) <|
  n_c (s_if_eq (pc := 14) (off := 18) (by decide +kernel) (by decide +kernel)) <|
  n_c (s_aload_n (pc := 17) (k := 0) (by decide +kernel)) <|
  n_c (s_iload_n (pc := 18) (k := 2) (by decide +kernel)) <|
  n_c (s_iconst (pc := 19) (n := 0) (by decide +kernel) (by decide +kernel)) <|
  n_c (s_aload_n (pc := 20) (k := 0) (by decide +kernel)) <|
  n_c (s_gIc (s_getI (pc := 21) (ci := 12) (k := 70) (idx := 499) nok12 (by decide) rfl (by decide +kernel) w_1477) (gk107 hG)) <|
  n_c (s_iconst (pc := 24) (n := 1) (by decide +kernel) (by decide +kernel)) <|
  n_c (s_isub (pc := 25) (by decide +kernel)) <|
  n_c (s_callVc (s_callV (pc := 26) (csX12_isIn) (by decide) okX12_isIn nok12 w_1659 w_46 w_1657 (by decide +kernel)) (gk107 hG)) <|
  n_c (s_if_ne (pc := 29) (off := 5) (by decide +kernel) (by decide +kernel)) <|
  n_c (s_iconst (pc := 32) (n := -1) (by decide +kernel) (by decide +kernel)) <|
  n_c (s_iret (pc := 33) rfl (by decide +kernel)) <|
  n_c (s_iconst (pc := 34) (n := 0) (by decide +kernel) (by decide +kernel)) <|
  n_c (s_istore_n (pc := 35) (k := 3) (by decide +kernel)) <|
  n_c (s_iconst (pc := 36) (n := 0) (by decide +kernel) (by decide +kernel)) <|
  n_c (s_istore (pc := 37) (by decide +kernel)) <|
  n_c (s_iload (pc := 39) (by decide +kernel)) <|
  n_c (s_aload_n (pc := 41) (k := 0) (by decide +kernel)) <|
  n_c (s_gIc (s_getI (pc := 42) (ci := 12) (k := 70) (idx := 499) nok12 (by decide) rfl (by decide +kernel) w_1477) (gk107 hG)) <|
  n_c (s_icmp_ge (pc := 45) (off := 19) (by decide +kernel) (by decide +kernel)) <|
  n_c (s_iload_n (pc := 48) (k := 3) (by decide +kernel)) <|
  n_c (s_aload_n (pc := 49) (k := 0) (by decide +kernel)) <|
  n_c (s_gRc (s_getR (pc := 50) (ci := 12) (k := 71) (idx := 134) nok12 (by decide) rfl (by decide +kernel) w_1478) (gk107 hG) (gm107_71 hG)) <|
  n_c (s_iload (pc := 53) (by decide +kernel)) <|
  n_c (s_aldc (s_iaload (pc := 55) (by decide +kernel)) (gk148 hG) (gl148 hG)) <|
  n_c (s_iadd (pc := 56) (by decide +kernel)) <|
  n_c (s_istore_n (pc := 57) (k := 3) (by decide +kernel)) <|
  n_c (s_iinc (pc := 58) (n := 1) (by decide +kernel) (by decide +kernel)) <|
  n_c (s_goto (pc := 61) (off := -22) (by decide +kernel) (by decide +kernel)) <|
  n_c (s_iload_n (pc := 64) (k := 1) (by decide +kernel)) <|
  n_c (s_istore (pc := 65) (by decide +kernel)) <|
  n_c (s_iconst (pc := 67) (n := 0) (by decide +kernel) (by decide +kernel)) <|
  n_c (s_istore (pc := 68) (by decide +kernel)) <|
  n_c (s_iconst (pc := 70) (n := 0) (by decide +kernel) (by decide +kernel)) <|
  n_c (s_istore (pc := 71) (by decide +kernel)) <|
  n_c (s_iload (pc := 73) (by decide +kernel)) <|
  n_c (s_aload_n (pc := 75) (k := 0) (by decide +kernel)) <|
  n_c (s_gIc (s_getI (pc := 76) (ci := 12) (k := 70) (idx := 499) nok12 (by decide) rfl (by decide +kernel) w_1477) (gk107 hG)) <|
  n_c (s_icmp_ge (pc := 79) (off := 71) (by decide +kernel) (by decide +kernel)) <|
  n_c (s_iload (pc := 82) (by decide +kernel)) <|
  n_c (s_iload_n (pc := 84) (k := 1) (by decide +kernel)) <|
  n_c (s_aload_n (pc := 85) (k := 0) (by decide +kernel)) <|
  n_c (s_gRc (s_getR (pc := 86) (ci := 12) (k := 71) (idx := 134) nok12 (by decide) rfl (by decide +kernel) w_1478) (gk107 hG) (gm107_71 hG)) <|
  n_c (s_iload (pc := 89) (by decide +kernel)) <|
  n_c (s_aldc (s_iaload (pc := 91) (by decide +kernel)) (gk148 hG) (gl148 hG)) <|
  n_c (s_imul (pc := 92) (by decide +kernel)) <|
  n_c (s_iload_n (pc := 93) (k := 3) (by decide +kernel)) <|
  n_c (s_idiv (pc := 94) (by decide +kernel)) <|
  n_c (s_isub (pc := 95) (by decide +kernel)) <|
  n_c (s_istore (pc := 96) (by decide +kernel)) <|
  n_c (s_iload_n (pc := 98) (k := 1) (by decide +kernel)) <|
  n_c (s_aload_n (pc := 99) (k := 0) (by decide +kernel)) <|
  n_c (s_gRc (s_getR (pc := 100) (ci := 12) (k := 71) (idx := 134) nok12 (by decide) rfl (by decide +kernel) w_1478) (gk107 hG) (gm107_71 hG)) <|
  n_c (s_iload (pc := 103) (by decide +kernel)) <|
  n_c (s_aldc (s_iaload (pc := 105) (by decide +kernel)) (gk148 hG) (gl148 hG)) <|
  n_c (s_imul (pc := 106) (by decide +kernel)) <|
  n_c (s_iload_n (pc := 107) (k := 3) (by decide +kernel)) <|
  n_c (s_irem (pc := 108) (by decide +kernel)) <|
  n_c (s_iload_n (pc := 109) (k := 1) (by decide +kernel)) <|
  n_c (s_aload_n (pc := 110) (k := 0) (by decide +kernel)) <|
  n_c (s_gRc (s_getR (pc := 111) (ci := 12) (k := 71) (idx := 134) nok12 (by decide) rfl (by decide +kernel) w_1478) (gk107 hG) (gm107_71 hG)) <|
  n_c (s_iload_n (pc := 114) (k := 2) (by decide +kernel)) <|
  n_c (s_aldc (s_iaload (pc := 115) (by decide +kernel)) (gk148 hG) (gl148 hG)) <|
  n_c (s_imul (pc := 116) (by decide +kernel)) <|
  n_c (s_iload_n (pc := 117) (k := 3) (by decide +kernel)) <|
  n_c (s_irem (pc := 118) (by decide +kernel)) <|
  n_c (s_isub (pc := 119) (by decide +kernel)) <|
  n_c (s_istore (pc := 120) (by decide +kernel)) <|
  n_c (s_iload (pc := 122) (by decide +kernel)) <|
  n_c (s_if_gt (pc := 124) (off := 14) (by decide +kernel) (by decide +kernel)) <|
  n_c (s_iload (pc := 127) (by decide +kernel)) <|
  n_c (s_if_ne (pc := 129) (off := 15) (by decide +kernel) (by decide +kernel)) <|
  n_c (s_iload (pc := 132) (by decide +kernel)) <|
  n_c (s_iload_n (pc := 134) (k := 2) (by decide +kernel)) <|
  n_c (s_icmp_ge (pc := 135) (off := 9) (by decide +kernel) (by decide +kernel)) <|
  n_c (s_iload (pc := 138) (by decide +kernel)) <|
  n_c (s_iconst (pc := 140) (n := 1) (by decide +kernel) (by decide +kernel)) <|
  n_c (s_iadd (pc := 141) (by decide +kernel)) <|
  n_c (s_istore (pc := 142) (by decide +kernel)) <|
  n_c (s_iinc (pc := 144) (n := 1) (by decide +kernel) (by decide +kernel)) <|
  n_c (s_goto (pc := 147) (off := -74) (by decide +kernel) (by decide +kernel)) <|
  n_c (s_iload_n (pc := 150) (k := 1) (by decide +kernel)) <|
  n_c (s_aload_n (pc := 151) (k := 0) (by decide +kernel)) <|
  n_c (s_gRc (s_getR (pc := 152) (ci := 12) (k := 71) (idx := 134) nok12 (by decide) rfl (by decide +kernel) w_1478) (gk107 hG) (gm107_71 hG)) <|
  n_c (s_iload_n (pc := 155) (k := 2) (by decide +kernel)) <|
  n_c (s_aldc (s_iaload (pc := 156) (by decide +kernel)) (gk148 hG) (gl148 hG)) <|
  n_c (s_imul (pc := 157) (by decide +kernel)) <|
  n_c (s_iload_n (pc := 158) (k := 3) (by decide +kernel)) <|
  n_c (s_idiv (pc := 159) (by decide +kernel)) <|
  n_c (s_iload (pc := 160) (by decide +kernel)) <|
  n_c (s_iload (pc := 162) (by decide +kernel)) <|
  n_c (s_icmp_ge (pc := 164) (off := 7) (by decide +kernel) (by decide +kernel)) <|
  n_c (s_iconst (pc := 167) (n := 1) (by decide +kernel) (by decide +kernel)) <|
  n_c (s_goto (pc := 168) (off := 4) (by decide +kernel) (by decide +kernel)) <|
  n_c (s_iconst (pc := 171) (n := 0) (by decide +kernel) (by decide +kernel)) <|
  n_c (s_iadd (pc := 172) (by decide +kernel)) <|
  n_c (s_iret (pc := 173) rfl (by decide +kernel)) <|
  n_e
def fX12_gets_73 (N : Nat) : Nat → Int32 → Int32 → Int32 → Int32 → Int32 → Int32 → nM → Option (Int32 × nM)
  | 0, _, _, _, _, _, _, _ => none
  | n + 1, x1, x2, x3, x4, x5, x6, M =>
    if (M 107 70) ≤ x6 then
      n_chk (n_ib 6 x2) <|
      if x3 = 0 then none else
      if x4 ≤ x5 then
        some ((((x1 * (M 148 x2.toNatClampNeg)) / x3) + (0 : Int32)), M)
      else
        some ((((x1 * (M 148 x2.toNatClampNeg)) / x3) + (1 : Int32)), M)
    else
      n_chk (n_ib 6 x6) <|
      if x3 = 0 then none else
      let v1 : Int32 := (x4 - ((x1 * (M 148 x6.toNatClampNeg)) / x3))
      n_chk (n_ib 6 x6) <|
      if x3 = 0 then none else
      n_chk (n_ib 6 x2) <|
      if x3 = 0 then none else
      let v2 : Int32 := (((x1 * (M 148 x6.toNatClampNeg)) - (x1 * (M 148 x6.toNatClampNeg)) / x3 * x3) - ((x1 * (M 148 x2.toNatClampNeg)) - (x1 * (M 148 x2.toNatClampNeg)) / x3 * x3))
      if 0 < v2 then
        let v3 : Int32 := (x5 + (1 : Int32))
        let v4 : Int32 := (x6 + (1 : Int32))
        fX12_gets_73 N n x1 x2 x3 v1 v3 v4 M
      else
        if ¬ v2 = 0 then
          let v5 : Int32 := (x6 + (1 : Int32))
          fX12_gets_73 N n x1 x2 x3 v1 x5 v5 M
        else
          if x2 ≤ x6 then
            let v6 : Int32 := (x6 + (1 : Int32))
            fX12_gets_73 N n x1 x2 x3 v1 x5 v6 M
          else
            let v7 : Int32 := (x5 + (1 : Int32))
            let v8 : Int32 := (x6 + (1 : Int32))
            fX12_gets_73 N n x1 x2 x3 v1 v7 v8 M
set_option maxRecDepth 200000 in
theorem bX12_gets_73 {l : Launch} {w : nW} (N : Nat) {G : nG} (hG : n_GOK G) : ∀ (n : Nat) (x1 : Int32) (x2 : Int32) (x3 : Int32) (x4 : Int32) (x5 : Int32) (x6 : Int32) (M : nM) (r : Int32 × nM), fX12_gets_73 N n x1 x2 x3 x4 x5 x6 M = some r → n_At l w 1 mX12_gets 73 [(0, .ref 107), (1, .int x1), (2, .int x2), (3, .int x3), (4, .int x4), (5, .int x5), (6, .int x6)] [] (G, M) (dv_i r.1, (G, r.2)) := by
  intro n
  induction n with
  | zero => intro x1 x2 x3 x4 x5 x6 M r h; cases (show (none : Option (Int32 × nM)) = some r from h)
  | succ n ih =>
    intro x1 x2 x3 x4 x5 x6 M r h
    exact n_seg (fin := n_fin dv_i G) (K := [(73, fun lv st M => n_lC 107 lv 0 (n_lI lv 1 (fun x1 => n_lI lv 2 (fun x2 => n_lI lv 3 (fun x3 => n_lI lv 4 (fun x4 => n_lI lv 5 (fun x5 => n_lI lv 6 (fun x6 => n_pE st (fX12_gets_73 N n x1 x2 x3 x4 x5 x6 M)))))))))]) 77 (iX12_gets N hG) (n_kc (fun lv st M r h => by
      obtain ⟨e0, h1⟩ := n_lC_x h
      obtain ⟨x1, e1, h2⟩ := n_lI_x h1
      obtain ⟨x2, e2, h3⟩ := n_lI_x h2
      obtain ⟨x3, e3, h4⟩ := n_lI_x h3
      obtain ⟨x4, e4, h5⟩ := n_lI_x h4
      obtain ⟨x5, e5, h6⟩ := n_lI_x h5
      obtain ⟨x6, e6, h7⟩ := n_lI_x h6
      obtain ⟨rfl, h8⟩ := n_pE_x h7
      exact n_sub (n_qc e0 (n_qc e1 (n_qc e2 (n_qc e3 (n_qc e4 (n_qc e5 (n_qc e6 n_qe))))))) (ih x1 x2 x3 x4 x5 x6 M r h8)) n_ke) (by rfl) h
def fX12_gets_39 (N : Nat) : Nat → Int32 → Int32 → Int32 → Int32 → nM → Option (Int32 × nM)
  | 0, _, _, _, _, _ => none
  | n + 1, x1, x2, x3, x4, M =>
    if (M 107 70) ≤ x4 then
      fX12_gets_73 N N x1 x2 x3 x1 (0 : Int32) (0 : Int32) M
    else
      n_chk (n_ib 6 x4) <|
      let v1 : Int32 := (x3 + (M 148 x4.toNatClampNeg))
      let v2 : Int32 := (x4 + (1 : Int32))
      fX12_gets_39 N n x1 x2 v1 v2 M
set_option maxRecDepth 200000 in
theorem bX12_gets_39 {l : Launch} {w : nW} (N : Nat) {G : nG} (hG : n_GOK G) : ∀ (n : Nat) (x1 : Int32) (x2 : Int32) (x3 : Int32) (x4 : Int32) (M : nM) (r : Int32 × nM), fX12_gets_39 N n x1 x2 x3 x4 M = some r → n_At l w 1 mX12_gets 39 [(0, .ref 107), (1, .int x1), (2, .int x2), (3, .int x3), (4, .int x4)] [] (G, M) (dv_i r.1, (G, r.2)) := by
  intro n
  induction n with
  | zero => intro x1 x2 x3 x4 M r h; cases (show (none : Option (Int32 × nM)) = some r from h)
  | succ n ih =>
    intro x1 x2 x3 x4 M r h
    exact n_seg (fin := n_fin dv_i G) (K := [(39, fun lv st M => n_lC 107 lv 0 (n_lI lv 1 (fun x1 => n_lI lv 2 (fun x2 => n_lI lv 3 (fun x3 => n_lI lv 4 (fun x4 => n_pE st (fX12_gets_39 N n x1 x2 x3 x4 M))))))), (73, fun lv st M => n_lC 107 lv 0 (n_lI lv 1 (fun x1 => n_lI lv 2 (fun x2 => n_lI lv 3 (fun x3 => n_lI lv 4 (fun x4 => n_lI lv 5 (fun x5 => n_lI lv 6 (fun x6 => n_pE st (fX12_gets_73 N N x1 x2 x3 x4 x5 x6 M)))))))))]) 22 (iX12_gets N hG) (n_kc (fun lv st M r h => by
      obtain ⟨e0, h1⟩ := n_lC_x h
      obtain ⟨x1, e1, h2⟩ := n_lI_x h1
      obtain ⟨x2, e2, h3⟩ := n_lI_x h2
      obtain ⟨x3, e3, h4⟩ := n_lI_x h3
      obtain ⟨x4, e4, h5⟩ := n_lI_x h4
      obtain ⟨rfl, h6⟩ := n_pE_x h5
      exact n_sub (n_qc e0 (n_qc e1 (n_qc e2 (n_qc e3 (n_qc e4 n_qe))))) (ih x1 x2 x3 x4 M r h6)) (n_kc (fun lv st M r h => by
      obtain ⟨e0, h1⟩ := n_lC_x h
      obtain ⟨x1, e1, h2⟩ := n_lI_x h1
      obtain ⟨x2, e2, h3⟩ := n_lI_x h2
      obtain ⟨x3, e3, h4⟩ := n_lI_x h3
      obtain ⟨x4, e4, h5⟩ := n_lI_x h4
      obtain ⟨x5, e5, h6⟩ := n_lI_x h5
      obtain ⟨x6, e6, h7⟩ := n_lI_x h6
      obtain ⟨rfl, h8⟩ := n_pE_x h7
      exact n_sub (n_qc e0 (n_qc e1 (n_qc e2 (n_qc e3 (n_qc e4 (n_qc e5 (n_qc e6 n_qe))))))) (bX12_gets_73 N hG N x1 x2 x3 x4 x5 x6 M r h8)) n_ke)) (by rfl) h
def fX12_gets (N : Nat) (x1 : Int32) (x2 : Int32) (M : nM) : Option (Int32 × nM) :=
  let M1 : nM := n_up M 107 0 (0 : Int32)
  (fX12_isIn x1 (0 : Int32) (9999 : Int32) M1).bind fun p2 =>
  if p2.1 = 0 then
    some ((-1 : Int32), p2.2)
  else
    (fX12_isIn x2 (0 : Int32) ((p2.2 107 70) - (1 : Int32)) p2.2).bind fun p3 =>
    if ¬ p3.1 = 0 then
      fX12_gets_39 N N x1 x2 (0 : Int32) (0 : Int32) p3.2
    else
      some ((-1 : Int32), p3.2)
set_option maxRecDepth 200000 in
theorem bX12_gets_0 {l : Launch} {w : nW} (N : Nat) {G : nG} (hG : n_GOK G) (x1 : Int32) (x2 : Int32) (M : nM) (r : Int32 × nM) (h : fX12_gets N x1 x2 M = some r) : n_At l w 1 mX12_gets 0 [(0, .ref 107), (1, .int x1), (2, .int x2)] [] (G, M) (dv_i r.1, (G, r.2)) :=
  n_seg (fin := n_fin dv_i G) (K := [(39, fun lv st M => n_lC 107 lv 0 (n_lI lv 1 (fun x1 => n_lI lv 2 (fun x2 => n_lI lv 3 (fun x3 => n_lI lv 4 (fun x4 => n_pE st (fX12_gets_39 N N x1 x2 x3 x4 M)))))))]) 29 (iX12_gets N hG) (n_kc (fun lv st M r h => by
      obtain ⟨e0, h1⟩ := n_lC_x h
      obtain ⟨x1, e1, h2⟩ := n_lI_x h1
      obtain ⟨x2, e2, h3⟩ := n_lI_x h2
      obtain ⟨x3, e3, h4⟩ := n_lI_x h3
      obtain ⟨x4, e4, h5⟩ := n_lI_x h4
      obtain ⟨rfl, h6⟩ := n_pE_x h5
      exact n_sub (n_qc e0 (n_qc e1 (n_qc e2 (n_qc e3 (n_qc e4 n_qe))))) (bX12_gets_39 N hG N x1 x2 x3 x4 M r h6)) n_ke) (by rfl) h
theorem eX12_gets {l : Launch} {w : nW} (N : Nat) {G : nG} (hG : n_GOK G) (z1 : Int32) (z2 : Int32) (M : nM) (r : Int32 × nM) (h : fX12_gets N z1 z2 M = some r) : n_Met l w 1 mX12_gets [.ref 107, .int z1, .int z2] (G, M) (dv_i r.1, (G, r.2)) :=
  n_entry (by decide +kernel) rfl (Nat.le_of_ble_eq_true rfl) (n_sub (lv := [(0, .ref 107), (1, .int z1), (2, .int z2)]) (n_qc rfl (n_qc rfl (n_qc rfl n_qe))) (bX12_gets_0 N hG z1 z2 M r h))
abbrev hX12_gets (N : Nat) : nF := fun T as M k => n_pC 107 as (fun as => n_pI as (fun z1 as => n_pI as (fun z2 as => n_pE as ((fX12_gets N z1 z2 M).bind fun p => k (dv_i p.1) p.2))))
theorem csX12_gets {l : Launch} {w : nW} (N : Nat) {G : nG} (hG : n_GOK G) : n_CS l w 1 mX12_gets G (hX12_gets N) := fun T as M k r h => by
  obtain ⟨t0, rfl, h1⟩ := n_pC_x h
  obtain ⟨z1, t1, rfl, h2⟩ := n_pI_x h1
  obtain ⟨z2, t2, rfl, h3⟩ := n_pI_x h2
  obtain ⟨rfl, hE⟩ := n_pE_x h3
  obtain ⟨p, hp, hk⟩ := Option.bind_eq_some_iff.mp hE
  exact ⟨_, _, eX12_gets N hG z1 z2 M p hp, hk⟩
/-! ===== SleightHouse.row(I)I ===== -/
def mX11_row : nY := (RX11, yX11_row, cX11_row, 2, some .int)
theorem okX11_row : n_MOK mX11_row 1 := ⟨w_1354, w_137, ⟨by decide +kernel, by decide +kernel, by decide +kernel⟩, by decide⟩
abbrev aX11_row (G : nG) : List (Nat × nO (Int32 × nM)) := [(0, o_iload 1 1), (1, o_push (.int (-1 : Int32)) 2), (2, oc_ne 19 5), (5, o_aload 0 6), (6, o_gRc 1 2 9), (9, o_gRc 2 28 12), (12, o_gRc 28 41 15), (15, o_callVc 41 0 (hX7_clear G) 18), (18, o_iret), (19, o_iload 1 20), (20, o_push (.int (0 : Int32)) 21), (21, o_push (.int (30 : Int32)) 23), (23, o_call 3 (hX11_within) 26), (26, oi_eq 49 29), (29, o_aload 0 30), (30, o_gRc 1 2 33), (33, o_gRc 2 28 36), (36, o_gRc 28 41 39), (39, o_iload 1 40), (40, o_push (.int (0 : Int32)) 41), (41, o_push (.int (0 : Int32)) 42), (42, o_push (.int (0 : Int32)) 43), (43, o_callVc 41 4 (hX7_add G) 46), (46, o_goto 50), (49, o_push (.int (-1 : Int32)) 50), (50, o_iret)]
set_option maxRecDepth 200000 in
theorem iX11_row {l : Launch} {w : nW} {G : nG} (hG : n_GOK G) : n_AllS l w 2 mX11_row G (n_fin dv_i G) (aX11_row G) :=
  n_c (s_iload_n (pc := 0) (k := 1) (by decide +kernel)) <|
  n_c (s_iconst (pc := 1) (n := -1) (by decide +kernel) (by decide +kernel)) <|
  n_c (s_icmp_ne (pc := 2) (off := 17) (by decide +kernel) (by decide +kernel)) <|
  n_c (s_aload_n (pc := 5) (k := 0) (by decide +kernel)) <|
  n_c (s_gRc (s_getR (pc := 6) (ci := 11) (k := 0) (idx := 10) nok11 (by decide) rfl (by decide +kernel) w_572) (gk1 hG) (gm1_0 hG)) <|
  n_c (s_gRc (s_getR (pc := 9) (ci := 1) (k := 7) (idx := 56) nok1 (by decide) rfl (by decide +kernel) w_421) (gk2 hG) (gm2_7 hG)) <|
  n_c (s_gRc (s_getR (pc := 12) (ci := 10) (k := 6) (idx := 396) nok10 (by decide) rfl (by decide +kernel) w_377) (gk28 hG) (gm28_6 hG)) <|
  n_c (s_callVc (s_callV (pc := 15) (csX7_clear) (by decide) okX7_clear nok7 w_962 w_963 w_1129 (by decide +kernel)) (gk41 hG)) <|
  n_c (s_iret (pc := 18) rfl (by decide +kernel)) <|
  n_c (s_iload_n (pc := 19) (k := 1) (by decide +kernel)) <|
  n_c (s_iconst (pc := 20) (n := 0) (by decide +kernel) (by decide +kernel)) <|
  n_c (s_bipush (pc := 21) (n := 30) (by decide +kernel) (by decide +kernel)) <|
  n_c (s_callS (pc := 23) (csX11_within) (by decide) okX11_within w_610 w_609 (by decide +kernel)) <|
  n_c (s_if_eq (pc := 26) (off := 23) (by decide +kernel) (by decide +kernel)) <|
  n_c (s_aload_n (pc := 29) (k := 0) (by decide +kernel)) <|
  n_c (s_gRc (s_getR (pc := 30) (ci := 11) (k := 0) (idx := 10) nok11 (by decide) rfl (by decide +kernel) w_572) (gk1 hG) (gm1_0 hG)) <|
  n_c (s_gRc (s_getR (pc := 33) (ci := 1) (k := 7) (idx := 56) nok1 (by decide) rfl (by decide +kernel) w_421) (gk2 hG) (gm2_7 hG)) <|
  n_c (s_gRc (s_getR (pc := 36) (ci := 10) (k := 6) (idx := 396) nok10 (by decide) rfl (by decide +kernel) w_377) (gk28 hG) (gm28_6 hG)) <|
  n_c (s_iload_n (pc := 39) (k := 1) (by decide +kernel)) <|
  n_c (s_iconst (pc := 40) (n := 0) (by decide +kernel) (by decide +kernel)) <|
  n_c (s_iconst (pc := 41) (n := 0) (by decide +kernel) (by decide +kernel)) <|
  n_c (s_iconst (pc := 42) (n := 0) (by decide +kernel) (by decide +kernel)) <|
  n_c (s_callVc (s_callV (pc := 43) (csX7_add) (by decide) okX7_add nok7 w_1030 w_1031 w_1130 (by decide +kernel)) (gk41 hG)) <|
  n_c (s_goto (pc := 46) (off := 4) (by decide +kernel) (by decide +kernel)) <|
  n_c (s_iconst (pc := 49) (n := -1) (by decide +kernel) (by decide +kernel)) <|
  n_c (s_iret (pc := 50) rfl (by decide +kernel)) <|
  n_e
def fX11_row (G : nG) (x1 : Int32) (M : nM) : Option (Int32 × nM) :=
  if ¬ x1 = (-1 : Int32) then
    (fX11_within x1 (0 : Int32) (30 : Int32) M).bind fun p1 =>
    if p1.1 = 0 then
      some ((-1 : Int32), p1.2)
    else
      (fX7_add G 41 x1 (0 : Int32) (0 : Int32) (0 : Int32) p1.2).bind fun p2 =>
      some (p2.1, p2.2)
  else
    (fX7_clear G 41 M).bind fun p3 =>
    some (p3.1, p3.2)
set_option maxRecDepth 200000 in
theorem bX11_row_0 {l : Launch} {w : nW} {G : nG} (hG : n_GOK G) (x1 : Int32) (M : nM) (r : Int32 × nM) (h : fX11_row G x1 M = some r) : n_At l w 2 mX11_row 0 [(0, .ref 1), (1, .int x1)] [] (G, M) (dv_i r.1, (G, r.2)) :=
  n_seg (fin := n_fin dv_i G) (K := []) 30 (iX11_row hG) n_ke (by rfl) h
theorem eX11_row {l : Launch} {w : nW} {G : nG} (hG : n_GOK G) (z1 : Int32) (M : nM) (r : Int32 × nM) (h : fX11_row G z1 M = some r) : n_Met l w 2 mX11_row [.ref 1, .int z1] (G, M) (dv_i r.1, (G, r.2)) :=
  n_entry (by decide +kernel) rfl (Nat.le_of_ble_eq_true rfl) (n_sub (lv := [(0, .ref 1), (1, .int z1)]) (n_qc rfl (n_qc rfl n_qe)) (bX11_row_0 hG z1 M r h))
abbrev hX11_row (G : nG) : nF := fun T as M k => n_pC 1 as (fun as => n_pI as (fun z1 as => n_pE as ((fX11_row G z1 M).bind fun p => k (dv_i p.1) p.2)))
theorem csX11_row {l : Launch} {w : nW} {G : nG} (hG : n_GOK G) : n_CS l w 2 mX11_row G (hX11_row G) := fun T as M k r h => by
  obtain ⟨t0, rfl, h1⟩ := n_pC_x h
  obtain ⟨z1, t1, rfl, h2⟩ := n_pI_x h1
  obtain ⟨rfl, hE⟩ := n_pE_x h2
  obtain ⟨p, hp, hk⟩ := Option.bind_eq_some_iff.mp hE
  exact ⟨_, _, eX11_row hG z1 M p hp, hk⟩
/-! ===== SleightHouseModel.row(I)I ===== -/
def mX12_row : nY := (RX12, yX12_row, cX12_row, 2, some .int)
theorem okX12_row : n_MOK mX12_row 1 := ⟨w_2148, w_151, ⟨by decide +kernel, by decide +kernel, by decide +kernel⟩, by decide⟩
abbrev aX12_row : List (Nat × nO (Int32 × nM)) := [(0, o_aload 0 1), (1, o_push (.int (0 : Int32)) 2), (2, o_pIc 107 0 5), (5, o_iload 1 6), (6, o_push (.int (-1 : Int32)) 7), (7, oc_ne 17 10), (10, o_aload 0 11), (11, o_push (.int (0 : Int32)) 12), (12, o_pIc 107 72 15), (15, o_push (.int (0 : Int32)) 16), (16, o_iret), (17, o_aload 0 18), (18, o_iload 1 19), (19, o_push (.int (0 : Int32)) 20), (20, o_push (.int (30 : Int32)) 22), (22, o_callVc 107 3 (hX12_isIn) 25), (25, oi_eq 36 28), (28, o_aload 0 29), (29, o_gIc 107 72 32), (32, o_push (.int (5 : Int32)) 33), (33, oc_ne 38 36), (36, o_push (.int (-1 : Int32)) 37), (37, o_iret), (38, o_aload 0 39), (39, o_gRc 107 149 42), (42, o_aload 0 43), (43, o_gIc 107 72 46), (46, o_iload 1 47), (47, o_iastc 149 5 48), (48, o_aload 0 49), (49, o_aload 0 50), (50, o_gIc 107 72 53), (53, o_push (.int (1 : Int32)) 54), (54, o_iadd 55), (55, o_pIc 107 72 58), (58, o_aload 0 59), (59, o_gIc 107 72 62), (62, o_iret)]
set_option maxRecDepth 200000 in
theorem iX12_row {l : Launch} {w : nW} {G : nG} (hG : n_GOK G) : n_AllS l w 1 mX12_row G (n_fin dv_i G) (aX12_row) :=
  n_c (s_aload_n (pc := 0) (k := 0) (by decide +kernel)) <|
  n_c (s_iconst (pc := 1) (n := 0) (by decide +kernel) (by decide +kernel)) <|
  n_c (s_pIc (s_putI (pc := 2) (ci := 12) (k := 0) (idx := 146) nok12 (by decide) rfl rfl (by decide +kernel) w_1407) (gk107 hG)) <|
  n_c (s_iload_n (pc := 5) (k := 1) (by decide +kernel)) <|
  n_c (s_iconst (pc := 6) (n := -1) (by decide +kernel) (by decide +kernel)) <|
  n_c (s_icmp_ne (pc := 7) (off := 10) (by decide +kernel) (by decide +kernel)) <|
  n_c (s_aload_n (pc := 10) (k := 0) (by decide +kernel)) <|
  n_c (s_iconst (pc := 11) (n := 0) (by decide +kernel) (by decide +kernel)) <|
  n_c (s_pIc (s_putI (pc := 12) (ci := 12) (k := 72) (idx := 502) nok12 (by decide) rfl rfl (by decide +kernel) w_1479) (gk107 hG)) <|
  n_c (s_iconst (pc := 15) (n := 0) (by decide +kernel) (by decide +kernel)) <|
  n_c (s_iret (pc := 16) rfl (by decide +kernel)) <|
  n_c (s_aload_n (pc := 17) (k := 0) (by decide +kernel)) <|
  n_c (s_iload_n (pc := 18) (k := 1) (by decide +kernel)) <|
  n_c (s_iconst (pc := 19) (n := 0) (by decide +kernel) (by decide +kernel)) <|
  n_c (s_bipush (pc := 20) (n := 30) (by decide +kernel) (by decide +kernel)) <|
  n_c (s_callVc (s_callV (pc := 22) (csX12_isIn) (by decide) okX12_isIn nok12 w_1659 w_46 w_1657 (by decide +kernel)) (gk107 hG)) <|
  n_c (s_if_eq (pc := 25) (off := 11) (by decide +kernel) (by decide +kernel)) <|
  n_c (s_aload_n (pc := 28) (k := 0) (by decide +kernel)) <|
  n_c (s_gIc (s_getI (pc := 29) (ci := 12) (k := 72) (idx := 502) nok12 (by decide) rfl (by decide +kernel) w_1479) (gk107 hG)) <|
  n_c (s_iconst (pc := 32) (n := 5) (by decide +kernel) (by decide +kernel)) <|
  n_c (s_icmp_ne (pc := 33) (off := 5) (by decide +kernel) (by decide +kernel)) <|
  n_c (s_iconst (pc := 36) (n := -1) (by decide +kernel) (by decide +kernel)) <|
  n_c (s_iret (pc := 37) rfl (by decide +kernel)) <|
  n_c (s_aload_n (pc := 38) (k := 0) (by decide +kernel)) <|
  n_c (s_gRc (s_getR (pc := 39) (ci := 12) (k := 73) (idx := 137) nok12 (by decide) rfl (by decide +kernel) w_1480) (gk107 hG) (gm107_73 hG)) <|
  n_c (s_aload_n (pc := 42) (k := 0) (by decide +kernel)) <|
  n_c (s_gIc (s_getI (pc := 43) (ci := 12) (k := 72) (idx := 502) nok12 (by decide) rfl (by decide +kernel) w_1479) (gk107 hG)) <|
  n_c (s_iload_n (pc := 46) (k := 1) (by decide +kernel)) <|
  n_c (s_iastc (s_iastore (pc := 47) (by decide +kernel)) (gk149 hG) (gl149 hG)) <|
  n_c (s_aload_n (pc := 48) (k := 0) (by decide +kernel)) <|
  n_c (s_aload_n (pc := 49) (k := 0) (by decide +kernel)) <|
  n_c (s_gIc (s_getI (pc := 50) (ci := 12) (k := 72) (idx := 502) nok12 (by decide) rfl (by decide +kernel) w_1479) (gk107 hG)) <|
  n_c (s_iconst (pc := 53) (n := 1) (by decide +kernel) (by decide +kernel)) <|
  n_c (s_iadd (pc := 54) (by decide +kernel)) <|
  n_c (s_pIc (s_putI (pc := 55) (ci := 12) (k := 72) (idx := 502) nok12 (by decide) rfl rfl (by decide +kernel) w_1479) (gk107 hG)) <|
  n_c (s_aload_n (pc := 58) (k := 0) (by decide +kernel)) <|
  n_c (s_gIc (s_getI (pc := 59) (ci := 12) (k := 72) (idx := 502) nok12 (by decide) rfl (by decide +kernel) w_1479) (gk107 hG)) <|
  n_c (s_iret (pc := 62) rfl (by decide +kernel)) <|
  n_e
def fX12_row (x1 : Int32) (M : nM) : Option (Int32 × nM) :=
  let M1 : nM := n_up M 107 0 (0 : Int32)
  if ¬ x1 = (-1 : Int32) then
    (fX12_isIn x1 (0 : Int32) (30 : Int32) M1).bind fun p2 =>
    if p2.1 = 0 then
      some ((-1 : Int32), p2.2)
    else
      if ¬ (p2.2 107 72) = (5 : Int32) then
        n_chk (n_ib 5 (p2.2 107 72)) <|
        let M3 : nM := n_up p2.2 149 (p2.2 107 72).toNatClampNeg x1
        let M4 : nM := n_up M3 107 72 ((M3 107 72) + (1 : Int32))
        some ((M4 107 72), M4)
      else
        some ((-1 : Int32), p2.2)
  else
    let M5 : nM := n_up M1 107 72 (0 : Int32)
    some ((0 : Int32), M5)
set_option maxRecDepth 200000 in
theorem bX12_row_0 {l : Launch} {w : nW} {G : nG} (hG : n_GOK G) (x1 : Int32) (M : nM) (r : Int32 × nM) (h : fX12_row x1 M = some r) : n_At l w 1 mX12_row 0 [(0, .ref 107), (1, .int x1)] [] (G, M) (dv_i r.1, (G, r.2)) :=
  n_seg (fin := n_fin dv_i G) (K := []) 43 (iX12_row hG) n_ke (by rfl) h
theorem eX12_row {l : Launch} {w : nW} {G : nG} (hG : n_GOK G) (z1 : Int32) (M : nM) (r : Int32 × nM) (h : fX12_row z1 M = some r) : n_Met l w 1 mX12_row [.ref 107, .int z1] (G, M) (dv_i r.1, (G, r.2)) :=
  n_entry (by decide +kernel) rfl (Nat.le_of_ble_eq_true rfl) (n_sub (lv := [(0, .ref 107), (1, .int z1)]) (n_qc rfl (n_qc rfl n_qe)) (bX12_row_0 hG z1 M r h))
abbrev hX12_row : nF := fun T as M k => n_pC 107 as (fun as => n_pI as (fun z1 as => n_pE as ((fX12_row z1 M).bind fun p => k (dv_i p.1) p.2)))
theorem csX12_row {l : Launch} {w : nW} {G : nG} (hG : n_GOK G) : n_CS l w 1 mX12_row G (hX12_row) := fun T as M k r h => by
  obtain ⟨t0, rfl, h1⟩ := n_pC_x h
  obtain ⟨z1, t1, rfl, h2⟩ := n_pI_x h1
  obtain ⟨rfl, hE⟩ := n_pE_x h2
  obtain ⟨p, hp, hk⟩ := Option.bind_eq_some_iff.mp hE
  exact ⟨_, _, eX12_row hG z1 M p hp, hk⟩
/-! ===== SleightHouse$Thought.weighRows()V ===== -/
def mX9_weighRows : nY := (RX9, yX9_weighRows, cX9_weighRows, 4, none)
theorem okX9_weighRows : n_MOK mX9_weighRows 0 := ⟨w_1366, w_149, ⟨by decide +kernel, by decide +kernel, by decide +kernel⟩, by decide⟩
abbrev aX9_weighRows (N : Nat) : List (Nat × nO (Unit × nM)) := [(0, o_push (.int (0 : Int32)) 1), (1, o_istore 4 1 2), (2, o_iload 1 3), (3, o_push (.int (30 : Int32)) 5), (5, oc_gt 76 8), (8, o_push (.int (0 : Int32)) 9), (9, o_istore 4 2 10), (10, o_push (.int (1 : Int32)) 11), (11, o_istore 4 3 12), (12, o_iload 3 13), (13, o_iload 1 14), (14, o_push (.int (1 : Int32)) 15), (15, o_iadd 16), (16, o_push (.int (2 : Int32)) 17), (17, o_idiv 18), (18, oc_gt 41 21), (21, o_iload 2 22), (22, o_aload 0 23), (23, o_gRc 98 99 26), (26, o_iload 1 27), (27, o_iload 3 28), (28, o_isub 29), (29, o_aldc 99 256 30), (30, o_push (.int (1 : Int32)) 31), (31, o_call 3 (hX4_withBit) 34), (34, o_istore 4 2 35), (35, o_inc 4 3 (1 : Int32) 38), (38, o_goto 12), (41, o_push (.int (0 : Int32)) 42), (42, o_istore 4 3 43), (43, o_iload 3 44), (44, o_push (.int (30 : Int32)) 46), (46, oc_ge 63 49), (49, o_iload 2 50), (50, o_iload 3 51), (51, o_call 2 (hX4_hasBit) 54), (54, oi_eq 63 57), (57, o_inc 4 3 (1 : Int32) 60), (60, o_goto 43), (63, o_aload 0 64), (64, o_gRc 98 99 67), (67, o_iload 1 68), (68, o_iload 3 69), (69, o_iastc 99 256 70), (70, o_inc 4 1 (1 : Int32) 73), (73, o_goto 2), (76, o_vret)]
set_option maxRecDepth 200000 in
theorem iX9_weighRows {l : Launch} {w : nW} (N : Nat) {G : nG} (hG : n_GOK G) : n_AllS l w 2 mX9_weighRows G (n_fin dv_v G) (aX9_weighRows N) :=
  n_c (s_iconst (pc := 0) (n := 0) (by decide +kernel) (by decide +kernel)) <|
  n_c (s_istore_n (pc := 1) (k := 1) (by decide +kernel)) <|
  n_c (s_iload_n (pc := 2) (k := 1) (by decide +kernel)) <|
  n_c (s_bipush (pc := 3) (n := 30) (by decide +kernel) (by decide +kernel)) <|
  n_c (s_icmp_gt (pc := 5) (off := 71) (by decide +kernel) (by decide +kernel)) <|
  n_c (s_iconst (pc := 8) (n := 0) (by decide +kernel) (by decide +kernel)) <|
  n_c (s_istore_n (pc := 9) (k := 2) (by decide +kernel)) <|
  n_c (s_iconst (pc := 10) (n := 1) (by decide +kernel) (by decide +kernel)) <|
  n_c (s_istore_n (pc := 11) (k := 3) (by decide +kernel)) <|
  n_c (s_iload_n (pc := 12) (k := 3) (by decide +kernel)) <|
  n_c (s_iload_n (pc := 13) (k := 1) (by decide +kernel)) <|
  n_c (s_iconst (pc := 14) (n := 1) (by decide +kernel) (by decide +kernel)) <|
  n_c (s_iadd (pc := 15) (by decide +kernel)) <|
  n_c (s_iconst (pc := 16) (n := 2) (by decide +kernel) (by decide +kernel)) <|
  n_c (s_idiv (pc := 17) (by decide +kernel)) <|
  n_c (s_icmp_gt (pc := 18) (off := 23) (by decide +kernel) (by decide +kernel)) <|
  n_c (s_iload_n (pc := 21) (k := 2) (by decide +kernel)) <|
  n_c (s_aload_n (pc := 22) (k := 0) (by decide +kernel)) <|
  n_c (s_gRc (s_getR (pc := 23) (ci := 9) (k := 1) (idx := 9) nok9 (by decide) rfl (by decide +kernel) w_538) (gk98 hG) (gm98_1 hG)) <|
  n_c (s_iload_n (pc := 26) (k := 1) (by decide +kernel)) <|
  n_c (s_iload_n (pc := 27) (k := 3) (by decide +kernel)) <|
  n_c (s_isub (pc := 28) (by decide +kernel)) <|
  n_c (s_aldc (s_iaload (pc := 29) (by decide +kernel)) (gk99 hG) (gl99 hG)) <|
  n_c (s_iconst (pc := 30) (n := 1) (by decide +kernel) (by decide +kernel)) <|
  n_c (s_callS (pc := 31) (csX4_withBit) (by decide) okX4_withBit w_625 w_1140 (by decide +kernel)) <|
  n_c (s_istore_n (pc := 34) (k := 2) (by decide +kernel)) <|
  n_c (s_iinc (pc := 35) (n := 1) (by decide +kernel) (by decide +kernel)) <|
  n_c (s_goto (pc := 38) (off := -26) (by decide +kernel) (by decide +kernel)) <|
  n_c (s_iconst (pc := 41) (n := 0) (by decide +kernel) (by decide +kernel)) <|
  n_c (s_istore_n (pc := 42) (k := 3) (by decide +kernel)) <|
  n_c (s_iload_n (pc := 43) (k := 3) (by decide +kernel)) <|
  n_c (s_bipush (pc := 44) (n := 30) (by decide +kernel) (by decide +kernel)) <|
  n_c (s_icmp_ge (pc := 46) (off := 17) (by decide +kernel) (by decide +kernel)) <|
  n_c (s_iload_n (pc := 49) (k := 2) (by decide +kernel)) <|
  n_c (s_iload_n (pc := 50) (k := 3) (by decide +kernel)) <|
  n_c (s_callS (pc := 51) (csX4_hasBit) (by decide) okX4_hasBit w_675 w_1139 (by decide +kernel)) <|
  n_c (s_if_eq (pc := 54) (off := 9) (by decide +kernel) (by decide +kernel)) <|
  n_c (s_iinc (pc := 57) (n := 1) (by decide +kernel) (by decide +kernel)) <|
  n_c (s_goto (pc := 60) (off := -17) (by decide +kernel) (by decide +kernel)) <|
  n_c (s_aload_n (pc := 63) (k := 0) (by decide +kernel)) <|
  n_c (s_gRc (s_getR (pc := 64) (ci := 9) (k := 1) (idx := 9) nok9 (by decide) rfl (by decide +kernel) w_538) (gk98 hG) (gm98_1 hG)) <|
  n_c (s_iload_n (pc := 67) (k := 1) (by decide +kernel)) <|
  n_c (s_iload_n (pc := 68) (k := 3) (by decide +kernel)) <|
  n_c (s_iastc (s_iastore (pc := 69) (by decide +kernel)) (gk99 hG) (gl99 hG)) <|
  n_c (s_iinc (pc := 70) (n := 1) (by decide +kernel) (by decide +kernel)) <|
  n_c (s_goto (pc := 73) (off := -71) (by decide +kernel) (by decide +kernel)) <|
  n_c (s_vret (pc := 76) rfl (by decide +kernel)) <|
  n_e
def fX9_weighRows_43 (N : Nat) (k2 : Int32 → nM → Option (Unit × nM)) : Nat → Int32 → Int32 → Int32 → nM → Option (Unit × nM)
  | 0, _, _, _, _ => none
  | n + 1, x1, x2, x3, M =>
    if (30 : Int32) ≤ x3 then
      n_chk (n_ib 256 x1) <|
      let M1 : nM := n_up M 99 x1.toNatClampNeg x3
      let v2 : Int32 := (x1 + (1 : Int32))
      k2 v2 M1
    else
      (fX4_hasBit x2 x3 M).bind fun p3 =>
      if p3.1 = 0 then
        n_chk (n_ib 256 x1) <|
        let M4 : nM := n_up p3.2 99 x1.toNatClampNeg x3
        let v5 : Int32 := (x1 + (1 : Int32))
        k2 v5 M4
      else
        let v6 : Int32 := (x3 + (1 : Int32))
        fX9_weighRows_43 N k2 n x1 x2 v6 p3.2
set_option maxRecDepth 200000 in
theorem bX9_weighRows_43 {l : Launch} {w : nW} (N : Nat) {G : nG} (hG : n_GOK G) (k2 : Int32 → nM → Option (Unit × nM)) (hk2 : ∀ (x1 : Int32) (M : nM) (r : Unit × nM), k2 x1 M = some r → n_At l w 2 mX9_weighRows 2 [(0, .ref 98), (1, .int x1)] [] (G, M) (dv_v r.1, (G, r.2))) : ∀ (n : Nat) (x1 : Int32) (x2 : Int32) (x3 : Int32) (M : nM) (r : Unit × nM), fX9_weighRows_43 N k2 n x1 x2 x3 M = some r → n_At l w 2 mX9_weighRows 43 [(0, .ref 98), (1, .int x1), (2, .int x2), (3, .int x3)] [] (G, M) (dv_v r.1, (G, r.2)) := by
  intro n
  induction n with
  | zero => intro x1 x2 x3 M r h; cases (show (none : Option (Unit × nM)) = some r from h)
  | succ n ih =>
    intro x1 x2 x3 M r h
    exact n_seg (fin := n_fin dv_v G) (K := [(2, fun lv st M => n_lC 98 lv 0 (n_lI lv 1 (fun x1 => n_pE st (k2 x1 M)))), (43, fun lv st M => n_lC 98 lv 0 (n_lI lv 1 (fun x1 => n_lI lv 2 (fun x2 => n_lI lv 3 (fun x3 => n_pE st (fX9_weighRows_43 N k2 n x1 x2 x3 M))))))]) 26 (iX9_weighRows N hG) (n_kc (fun lv st M r h => by
      obtain ⟨e0, h1⟩ := n_lC_x h
      obtain ⟨x1, e1, h2⟩ := n_lI_x h1
      obtain ⟨rfl, h3⟩ := n_pE_x h2
      exact n_sub (n_qc e0 (n_qc e1 n_qe)) (hk2 x1 M r h3)) (n_kc (fun lv st M r h => by
      obtain ⟨e0, h1⟩ := n_lC_x h
      obtain ⟨x1, e1, h2⟩ := n_lI_x h1
      obtain ⟨x2, e2, h3⟩ := n_lI_x h2
      obtain ⟨x3, e3, h4⟩ := n_lI_x h3
      obtain ⟨rfl, h5⟩ := n_pE_x h4
      exact n_sub (n_qc e0 (n_qc e1 (n_qc e2 (n_qc e3 n_qe)))) (ih x1 x2 x3 M r h5)) n_ke)) (by rfl) h
def fX9_weighRows_12 (N : Nat) (k2 : Int32 → nM → Option (Unit × nM)) : Nat → Int32 → Int32 → Int32 → nM → Option (Unit × nM)
  | 0, _, _, _, _ => none
  | n + 1, x1, x2, x3, M =>
    if (2 : Int32) = 0 then none else
    if ((x1 + (1 : Int32)) / (2 : Int32)) < x3 then
      fX9_weighRows_43 N k2 N x1 x2 (0 : Int32) M
    else
      n_chk (n_ib 256 (x1 - x3)) <|
      (fX4_withBit x2 (M 99 (x1 - x3).toNatClampNeg) (1 : Int32) M).bind fun p1 =>
      let v2 : Int32 := (x3 + (1 : Int32))
      fX9_weighRows_12 N k2 n x1 p1.1 v2 p1.2
set_option maxRecDepth 200000 in
theorem bX9_weighRows_12 {l : Launch} {w : nW} (N : Nat) {G : nG} (hG : n_GOK G) (k2 : Int32 → nM → Option (Unit × nM)) (hk2 : ∀ (x1 : Int32) (M : nM) (r : Unit × nM), k2 x1 M = some r → n_At l w 2 mX9_weighRows 2 [(0, .ref 98), (1, .int x1)] [] (G, M) (dv_v r.1, (G, r.2))) : ∀ (n : Nat) (x1 : Int32) (x2 : Int32) (x3 : Int32) (M : nM) (r : Unit × nM), fX9_weighRows_12 N k2 n x1 x2 x3 M = some r → n_At l w 2 mX9_weighRows 12 [(0, .ref 98), (1, .int x1), (2, .int x2), (3, .int x3)] [] (G, M) (dv_v r.1, (G, r.2)) := by
  intro n
  induction n with
  | zero => intro x1 x2 x3 M r h; cases (show (none : Option (Unit × nM)) = some r from h)
  | succ n ih =>
    intro x1 x2 x3 M r h
    exact n_seg (fin := n_fin dv_v G) (K := [(12, fun lv st M => n_lC 98 lv 0 (n_lI lv 1 (fun x1 => n_lI lv 2 (fun x2 => n_lI lv 3 (fun x3 => n_pE st (fX9_weighRows_12 N k2 n x1 x2 x3 M)))))), (43, fun lv st M => n_lC 98 lv 0 (n_lI lv 1 (fun x1 => n_lI lv 2 (fun x2 => n_lI lv 3 (fun x3 => n_pE st (fX9_weighRows_43 N k2 N x1 x2 x3 M))))))]) 24 (iX9_weighRows N hG) (n_kc (fun lv st M r h => by
      obtain ⟨e0, h1⟩ := n_lC_x h
      obtain ⟨x1, e1, h2⟩ := n_lI_x h1
      obtain ⟨x2, e2, h3⟩ := n_lI_x h2
      obtain ⟨x3, e3, h4⟩ := n_lI_x h3
      obtain ⟨rfl, h5⟩ := n_pE_x h4
      exact n_sub (n_qc e0 (n_qc e1 (n_qc e2 (n_qc e3 n_qe)))) (ih x1 x2 x3 M r h5)) (n_kc (fun lv st M r h => by
      obtain ⟨e0, h1⟩ := n_lC_x h
      obtain ⟨x1, e1, h2⟩ := n_lI_x h1
      obtain ⟨x2, e2, h3⟩ := n_lI_x h2
      obtain ⟨x3, e3, h4⟩ := n_lI_x h3
      obtain ⟨rfl, h5⟩ := n_pE_x h4
      exact n_sub (n_qc e0 (n_qc e1 (n_qc e2 (n_qc e3 n_qe)))) (bX9_weighRows_43 N hG k2 hk2 N x1 x2 x3 M r h5)) n_ke)) (by rfl) h
def fX9_weighRows_2 (N : Nat) : Nat → Int32 → nM → Option (Unit × nM)
  | 0, _, _ => none
  | n + 1, x1, M =>
    if (30 : Int32) < x1 then
      some ((), M)
    else
      fX9_weighRows_12 N (fun x1 M => fX9_weighRows_2 N n x1 M) N x1 (0 : Int32) (1 : Int32) M
set_option maxRecDepth 200000 in
theorem bX9_weighRows_2 {l : Launch} {w : nW} (N : Nat) {G : nG} (hG : n_GOK G) : ∀ (n : Nat) (x1 : Int32) (M : nM) (r : Unit × nM), fX9_weighRows_2 N n x1 M = some r → n_At l w 2 mX9_weighRows 2 [(0, .ref 98), (1, .int x1)] [] (G, M) (dv_v r.1, (G, r.2)) := by
  intro n
  induction n with
  | zero => intro x1 M r h; cases (show (none : Option (Unit × nM)) = some r from h)
  | succ n ih =>
    intro x1 M r h
    exact n_seg (fin := n_fin dv_v G) (K := [(12, fun lv st M => n_lC 98 lv 0 (n_lI lv 1 (fun x1 => n_lI lv 2 (fun x2 => n_lI lv 3 (fun x3 => n_pE st (fX9_weighRows_12 N (fun x1 M => fX9_weighRows_2 N n x1 M) N x1 x2 x3 M))))))]) 11 (iX9_weighRows N hG) (n_kc (fun lv st M r h => by
      obtain ⟨e0, h1⟩ := n_lC_x h
      obtain ⟨x1, e1, h2⟩ := n_lI_x h1
      obtain ⟨x2, e2, h3⟩ := n_lI_x h2
      obtain ⟨x3, e3, h4⟩ := n_lI_x h3
      obtain ⟨rfl, h5⟩ := n_pE_x h4
      exact n_sub (n_qc e0 (n_qc e1 (n_qc e2 (n_qc e3 n_qe)))) (bX9_weighRows_12 N hG (fun x1 M => fX9_weighRows_2 N n x1 M) ih N x1 x2 x3 M r h5)) n_ke) (by rfl) h
def fX9_weighRows (N : Nat) (M : nM) : Option (Unit × nM) :=
  fX9_weighRows_2 N N (0 : Int32) M
set_option maxRecDepth 200000 in
theorem bX9_weighRows_0 {l : Launch} {w : nW} (N : Nat) {G : nG} (hG : n_GOK G) (M : nM) (r : Unit × nM) (h : fX9_weighRows N M = some r) : n_At l w 2 mX9_weighRows 0 [(0, .ref 98)] [] (G, M) (dv_v r.1, (G, r.2)) :=
  n_seg (fin := n_fin dv_v G) (K := [(2, fun lv st M => n_lC 98 lv 0 (n_lI lv 1 (fun x1 => n_pE st (fX9_weighRows_2 N N x1 M))))]) 5 (iX9_weighRows N hG) (n_kc (fun lv st M r h => by
      obtain ⟨e0, h1⟩ := n_lC_x h
      obtain ⟨x1, e1, h2⟩ := n_lI_x h1
      obtain ⟨rfl, h3⟩ := n_pE_x h2
      exact n_sub (n_qc e0 (n_qc e1 n_qe)) (bX9_weighRows_2 N hG N x1 M r h3)) n_ke) (by rfl) h
theorem eX9_weighRows {l : Launch} {w : nW} (N : Nat) {G : nG} (hG : n_GOK G) (M : nM) (r : Unit × nM) (h : fX9_weighRows N M = some r) : n_Met l w 2 mX9_weighRows [.ref 98] (G, M) (dv_v r.1, (G, r.2)) :=
  n_entry (by decide +kernel) rfl (Nat.le_of_ble_eq_true rfl) (n_sub (lv := [(0, .ref 98)]) (n_qc rfl n_qe) (bX9_weighRows_0 N hG M r h))
abbrev hX9_weighRows (N : Nat) : nF := fun T as M k => n_pC 98 as (fun as => n_pE as ((fX9_weighRows N M).bind fun p => k (dv_v p.1) p.2))
theorem csX9_weighRows {l : Launch} {w : nW} (N : Nat) {G : nG} (hG : n_GOK G) : n_CS l w 2 mX9_weighRows G (hX9_weighRows N) := fun T as M k r h => by
  obtain ⟨t0, rfl, h1⟩ := n_pC_x h
  obtain ⟨rfl, hE⟩ := n_pE_x h1
  obtain ⟨p, hp, hk⟩ := Option.bind_eq_some_iff.mp hE
  exact ⟨_, _, eX9_weighRows N hG M p hp, hk⟩
/-! ===== SleightHouse$Thought.goodMove(Z)I ===== -/
def mX9_goodMove : nY := (RX9, yX9_goodMove, cX9_goodMove, 6, some .int)
theorem okX9_goodMove : n_MOK mX9_goodMove 1 := ⟨w_1362, w_149, ⟨by decide +kernel, by decide +kernel, by decide +kernel⟩, by decide⟩
abbrev aX9_goodMove (N : Nat) (G : nG) : List (Nat × nO (Int32 × nM)) := [(0, o_aload 0 1), (1, o_callVc 98 0 (hX9_weighRows N) 4), (4, o_push (.int (0 : Int32)) 5), (5, o_istore 6 2 6), (6, o_push (.int (0 : Int32)) 7), (7, o_istore 6 3 8), (8, o_iload 3 9), (9, o_aload 0 10), (10, o_gRc 98 28 13), (13, o_gRc 28 41 16), (16, o_gIc 41 3 19), (19, oc_ge 48 22), (22, o_iload 2 23), (23, o_aload 0 24), (24, o_gRc 98 99 27), (27, o_aload 0 28), (28, o_gRc 98 28 31), (31, o_gRc 28 41 34), (34, o_iload 3 35), (35, o_push (.int (0 : Int32)) 36), (36, o_callVc 41 2 (hX7_cell G) 39), (39, o_aldc 99 256 40), (40, o_ixor 41), (41, o_istore 6 2 42), (42, o_inc 6 3 (1 : Int32) 45), (45, o_goto 8), (48, o_push (.int (0 : Int32)) 49), (49, o_istore 6 3 50), (50, o_iload 3 51), (51, o_aload 0 52), (52, o_gRc 98 28 55), (55, o_gRc 28 41 58), (58, o_gIc 41 3 61), (61, oc_ge 138 64), (64, o_aload 0 65), (65, o_gRc 98 28 68), (68, o_gRc 28 41 71), (71, o_iload 3 72), (72, o_push (.int (0 : Int32)) 73), (73, o_callVc 41 2 (hX7_cell G) 76), (76, o_istore 6 4 78), (78, o_push (.int (1 : Int32)) 79), (79, o_istore 6 5 81), (81, o_iload 5 83), (83, o_iload 4 85), (85, o_push (.int (1 : Int32)) 86), (86, o_iadd 87), (87, o_push (.int (2 : Int32)) 88), (88, o_idiv 89), (89, oc_gt 132 92), (92, o_iload 2 93), (93, o_aload 0 94), (94, o_gRc 98 99 97), (97, o_iload 4 99), (99, o_aldc 99 256 100), (100, o_ixor 101), (101, o_aload 0 102), (102, o_gRc 98 99 105), (105, o_iload 4 107), (107, o_iload 5 109), (109, o_isub 110), (110, o_aldc 99 256 111), (111, o_ixor 112), (112, oi_ne 126 115), (115, o_iload 1 116), (116, oi_eq 124 119), (119, o_iload 5 121), (121, o_goto 125), (124, o_iload 3 125), (125, o_iret), (126, o_inc 6 5 (1 : Int32) 129), (129, o_goto 81), (132, o_inc 6 3 (1 : Int32) 135), (135, o_goto 50), (138, o_push (.int (-1 : Int32)) 139), (139, o_iret)]
set_option maxRecDepth 200000 in
theorem iX9_goodMove {l : Launch} {w : nW} (N : Nat) {G : nG} (hG : n_GOK G) : n_AllS l w 3 mX9_goodMove G (n_fin dv_i G) (aX9_goodMove N G) :=
  n_c (s_aload_n (pc := 0) (k := 0) (by decide +kernel)) <|
  n_c (s_callVc (s_callV (pc := 1) (csX9_weighRows N hG) (by decide) okX9_weighRows nok9 w_1365 w_45 w_1363 (by decide +kernel)) (gk98 hG)) <|
  n_c (s_iconst (pc := 4) (n := 0) (by decide +kernel) (by decide +kernel)) <|
  n_c (s_istore_n (pc := 5) (k := 2) (by decide +kernel)) <|
  n_c (s_iconst (pc := 6) (n := 0) (by decide +kernel) (by decide +kernel)) <|
  n_c (s_istore_n (pc := 7) (k := 3) (by decide +kernel)) <|
  n_c (s_iload_n (pc := 8) (k := 3) (by decide +kernel)) <|
  n_c (s_aload_n (pc := 9) (k := 0) (by decide +kernel)) <|
  n_c (s_gRc (s_getR (pc := 10) (ci := 9) (k := 0) (idx := 18) nok9 (by decide) rfl (by decide +kernel) w_537) (gk98 hG) (gm98_0 hG)) <|
  n_c (s_gRc (s_getR (pc := 13) (ci := 10) (k := 6) (idx := 110) nok10 (by decide) rfl (by decide +kernel) w_376) (gk28 hG) (gm28_6 hG)) <|
  n_c (s_gIc (s_getI (pc := 16) (ci := 7) (k := 3) (idx := 28) nok7 (by decide) rfl (by decide +kernel) w_304) (gk41 hG)) <|
  n_c (s_icmp_ge (pc := 19) (off := 29) (by decide +kernel) (by decide +kernel)) <|
  n_c (s_iload_n (pc := 22) (k := 2) (by decide +kernel)) <|
  n_c (s_aload_n (pc := 23) (k := 0) (by decide +kernel)) <|
  n_c (s_gRc (s_getR (pc := 24) (ci := 9) (k := 1) (idx := 9) nok9 (by decide) rfl (by decide +kernel) w_538) (gk98 hG) (gm98_1 hG)) <|
  n_c (s_aload_n (pc := 27) (k := 0) (by decide +kernel)) <|
  n_c (s_gRc (s_getR (pc := 28) (ci := 9) (k := 0) (idx := 18) nok9 (by decide) rfl (by decide +kernel) w_537) (gk98 hG) (gm98_0 hG)) <|
  n_c (s_gRc (s_getR (pc := 31) (ci := 10) (k := 6) (idx := 110) nok10 (by decide) rfl (by decide +kernel) w_376) (gk28 hG) (gm28_6 hG)) <|
  n_c (s_iload_n (pc := 34) (k := 3) (by decide +kernel)) <|
  n_c (s_iconst (pc := 35) (n := 0) (by decide +kernel) (by decide +kernel)) <|
  n_c (s_callVc (s_callV (pc := 36) (csX7_cell) (by decide) okX7_cell nok7 w_786 w_787 w_1145 (by decide +kernel)) (gk41 hG)) <|
  n_c (s_aldc (s_iaload (pc := 39) (by decide +kernel)) (gk99 hG) (gl99 hG)) <|
  n_c (s_ixor (pc := 40) (by decide +kernel)) <|
  n_c (s_istore_n (pc := 41) (k := 2) (by decide +kernel)) <|
  n_c (s_iinc (pc := 42) (n := 1) (by decide +kernel) (by decide +kernel)) <|
  n_c (s_goto (pc := 45) (off := -37) (by decide +kernel) (by decide +kernel)) <|
  n_c (s_iconst (pc := 48) (n := 0) (by decide +kernel) (by decide +kernel)) <|
  n_c (s_istore_n (pc := 49) (k := 3) (by decide +kernel)) <|
  n_c (s_iload_n (pc := 50) (k := 3) (by decide +kernel)) <|
  n_c (s_aload_n (pc := 51) (k := 0) (by decide +kernel)) <|
  n_c (s_gRc (s_getR (pc := 52) (ci := 9) (k := 0) (idx := 18) nok9 (by decide) rfl (by decide +kernel) w_537) (gk98 hG) (gm98_0 hG)) <|
  n_c (s_gRc (s_getR (pc := 55) (ci := 10) (k := 6) (idx := 110) nok10 (by decide) rfl (by decide +kernel) w_376) (gk28 hG) (gm28_6 hG)) <|
  n_c (s_gIc (s_getI (pc := 58) (ci := 7) (k := 3) (idx := 28) nok7 (by decide) rfl (by decide +kernel) w_304) (gk41 hG)) <|
  n_c (s_icmp_ge (pc := 61) (off := 77) (by decide +kernel) (by decide +kernel)) <|
  n_c (s_aload_n (pc := 64) (k := 0) (by decide +kernel)) <|
  n_c (s_gRc (s_getR (pc := 65) (ci := 9) (k := 0) (idx := 18) nok9 (by decide) rfl (by decide +kernel) w_537) (gk98 hG) (gm98_0 hG)) <|
  n_c (s_gRc (s_getR (pc := 68) (ci := 10) (k := 6) (idx := 110) nok10 (by decide) rfl (by decide +kernel) w_376) (gk28 hG) (gm28_6 hG)) <|
  n_c (s_iload_n (pc := 71) (k := 3) (by decide +kernel)) <|
  n_c (s_iconst (pc := 72) (n := 0) (by decide +kernel) (by decide +kernel)) <|
  n_c (s_callVc (s_callV (pc := 73) (csX7_cell) (by decide) okX7_cell nok7 w_786 w_787 w_1145 (by decide +kernel)) (gk41 hG)) <|
  n_c (s_istore (pc := 76) (by decide +kernel)) <|
  n_c (s_iconst (pc := 78) (n := 1) (by decide +kernel) (by decide +kernel)) <|
  n_c (s_istore (pc := 79) (by decide +kernel)) <|
  n_c (s_iload (pc := 81) (by decide +kernel)) <|
  n_c (s_iload (pc := 83) (by decide +kernel)) <|
  n_c (s_iconst (pc := 85) (n := 1) (by decide +kernel) (by decide +kernel)) <|
  n_c (s_iadd (pc := 86) (by decide +kernel)) <|
  n_c (s_iconst (pc := 87) (n := 2) (by decide +kernel) (by decide +kernel)) <|
  n_c (s_idiv (pc := 88) (by decide +kernel)) <|
  n_c (s_icmp_gt (pc := 89) (off := 43) (by decide +kernel) (by decide +kernel)) <|
  n_c (s_iload_n (pc := 92) (k := 2) (by decide +kernel)) <|
  n_c (s_aload_n (pc := 93) (k := 0) (by decide +kernel)) <|
  n_c (s_gRc (s_getR (pc := 94) (ci := 9) (k := 1) (idx := 9) nok9 (by decide) rfl (by decide +kernel) w_538) (gk98 hG) (gm98_1 hG)) <|
  n_c (s_iload (pc := 97) (by decide +kernel)) <|
  n_c (s_aldc (s_iaload (pc := 99) (by decide +kernel)) (gk99 hG) (gl99 hG)) <|
  n_c (s_ixor (pc := 100) (by decide +kernel)) <|
  n_c (s_aload_n (pc := 101) (k := 0) (by decide +kernel)) <|
  n_c (s_gRc (s_getR (pc := 102) (ci := 9) (k := 1) (idx := 9) nok9 (by decide) rfl (by decide +kernel) w_538) (gk98 hG) (gm98_1 hG)) <|
  n_c (s_iload (pc := 105) (by decide +kernel)) <|
  n_c (s_iload (pc := 107) (by decide +kernel)) <|
  n_c (s_isub (pc := 109) (by decide +kernel)) <|
  n_c (s_aldc (s_iaload (pc := 110) (by decide +kernel)) (gk99 hG) (gl99 hG)) <|
  n_c (s_ixor (pc := 111) (by decide +kernel)) <|
  n_c (s_if_ne (pc := 112) (off := 14) (by decide +kernel) (by decide +kernel)) <|
  n_c (s_iload_n (pc := 115) (k := 1) (by decide +kernel)) <|
  n_c (s_if_eq (pc := 116) (off := 8) (by decide +kernel) (by decide +kernel)) <|
  n_c (s_iload (pc := 119) (by decide +kernel)) <|
  n_c (s_goto (pc := 121) (off := 4) (by decide +kernel) (by decide +kernel)) <|
  n_c (s_iload_n (pc := 124) (k := 3) (by decide +kernel)) <|
  n_c (s_iret (pc := 125) rfl (by decide +kernel)) <|
  n_c (s_iinc (pc := 126) (n := 1) (by decide +kernel) (by decide +kernel)) <|
  n_c (s_goto (pc := 129) (off := -48) (by decide +kernel) (by decide +kernel)) <|
  n_c (s_iinc (pc := 132) (n := 1) (by decide +kernel) (by decide +kernel)) <|
  n_c (s_goto (pc := 135) (off := -85) (by decide +kernel) (by decide +kernel)) <|
  n_c (s_iconst (pc := 138) (n := -1) (by decide +kernel) (by decide +kernel)) <|
  n_c (s_iret (pc := 139) rfl (by decide +kernel)) <|
  n_e
def fX9_goodMove_81 (N : Nat) (G : nG) (k50 : Int32 → Int32 → Int32 → nM → Option (Int32 × nM)) : Nat → Int32 → Int32 → Int32 → Int32 → Int32 → nM → Option (Int32 × nM)
  | 0, _, _, _, _, _, _ => none
  | n + 1, x1, x2, x3, x4, x5, M =>
    if (2 : Int32) = 0 then none else
    if ((x4 + (1 : Int32)) / (2 : Int32)) < x5 then
      let v1 : Int32 := (x3 + (1 : Int32))
      k50 x1 x2 v1 M
    else
      n_chk (n_ib 256 x4) <|
      n_chk (n_ib 256 (x4 - x5)) <|
      if ¬ ((x2 ^^^ (M 99 x4.toNatClampNeg)) ^^^ (M 99 (x4 - x5).toNatClampNeg)) = 0 then
        let v2 : Int32 := (x5 + (1 : Int32))
        fX9_goodMove_81 N G k50 n x1 x2 x3 x4 v2 M
      else
        if x1 = 0 then
          some (x3, M)
        else
          some (x5, M)
set_option maxRecDepth 200000 in
theorem bX9_goodMove_81 {l : Launch} {w : nW} (N : Nat) {G : nG} (hG : n_GOK G) (k50 : Int32 → Int32 → Int32 → nM → Option (Int32 × nM)) (hk50 : ∀ (x1 : Int32) (x2 : Int32) (x3 : Int32) (M : nM) (r : Int32 × nM), k50 x1 x2 x3 M = some r → n_At l w 3 mX9_goodMove 50 [(0, .ref 98), (1, .int x1), (2, .int x2), (3, .int x3)] [] (G, M) (dv_i r.1, (G, r.2))) : ∀ (n : Nat) (x1 : Int32) (x2 : Int32) (x3 : Int32) (x4 : Int32) (x5 : Int32) (M : nM) (r : Int32 × nM), fX9_goodMove_81 N G k50 n x1 x2 x3 x4 x5 M = some r → n_At l w 3 mX9_goodMove 81 [(0, .ref 98), (1, .int x1), (2, .int x2), (3, .int x3), (4, .int x4), (5, .int x5)] [] (G, M) (dv_i r.1, (G, r.2)) := by
  intro n
  induction n with
  | zero => intro x1 x2 x3 x4 x5 M r h; cases (show (none : Option (Int32 × nM)) = some r from h)
  | succ n ih =>
    intro x1 x2 x3 x4 x5 M r h
    exact n_seg (fin := n_fin dv_i G) (K := [(50, fun lv st M => n_lC 98 lv 0 (n_lI lv 1 (fun x1 => n_lI lv 2 (fun x2 => n_lI lv 3 (fun x3 => n_pE st (k50 x1 x2 x3 M)))))), (81, fun lv st M => n_lC 98 lv 0 (n_lI lv 1 (fun x1 => n_lI lv 2 (fun x2 => n_lI lv 3 (fun x3 => n_lI lv 4 (fun x4 => n_lI lv 5 (fun x5 => n_pE st (fX9_goodMove_81 N G k50 n x1 x2 x3 x4 x5 M))))))))]) 35 (iX9_goodMove N hG) (n_kc (fun lv st M r h => by
      obtain ⟨e0, h1⟩ := n_lC_x h
      obtain ⟨x1, e1, h2⟩ := n_lI_x h1
      obtain ⟨x2, e2, h3⟩ := n_lI_x h2
      obtain ⟨x3, e3, h4⟩ := n_lI_x h3
      obtain ⟨rfl, h5⟩ := n_pE_x h4
      exact n_sub (n_qc e0 (n_qc e1 (n_qc e2 (n_qc e3 n_qe)))) (hk50 x1 x2 x3 M r h5)) (n_kc (fun lv st M r h => by
      obtain ⟨e0, h1⟩ := n_lC_x h
      obtain ⟨x1, e1, h2⟩ := n_lI_x h1
      obtain ⟨x2, e2, h3⟩ := n_lI_x h2
      obtain ⟨x3, e3, h4⟩ := n_lI_x h3
      obtain ⟨x4, e4, h5⟩ := n_lI_x h4
      obtain ⟨x5, e5, h6⟩ := n_lI_x h5
      obtain ⟨rfl, h7⟩ := n_pE_x h6
      exact n_sub (n_qc e0 (n_qc e1 (n_qc e2 (n_qc e3 (n_qc e4 (n_qc e5 n_qe)))))) (ih x1 x2 x3 x4 x5 M r h7)) n_ke)) (by rfl) h
def fX9_goodMove_50 (N : Nat) (G : nG) : Nat → Int32 → Int32 → Int32 → nM → Option (Int32 × nM)
  | 0, _, _, _, _ => none
  | n + 1, x1, x2, x3, M =>
    if (M 41 3) ≤ x3 then
      some ((-1 : Int32), M)
    else
      (fX7_cell G 41 x3 (0 : Int32) M).bind fun p1 =>
      fX9_goodMove_81 N G (fun x1 x2 x3 M => fX9_goodMove_50 N G n x1 x2 x3 M) N x1 x2 x3 p1.1 (1 : Int32) p1.2
set_option maxRecDepth 200000 in
theorem bX9_goodMove_50 {l : Launch} {w : nW} (N : Nat) {G : nG} (hG : n_GOK G) : ∀ (n : Nat) (x1 : Int32) (x2 : Int32) (x3 : Int32) (M : nM) (r : Int32 × nM), fX9_goodMove_50 N G n x1 x2 x3 M = some r → n_At l w 3 mX9_goodMove 50 [(0, .ref 98), (1, .int x1), (2, .int x2), (3, .int x3)] [] (G, M) (dv_i r.1, (G, r.2)) := by
  intro n
  induction n with
  | zero => intro x1 x2 x3 M r h; cases (show (none : Option (Int32 × nM)) = some r from h)
  | succ n ih =>
    intro x1 x2 x3 M r h
    exact n_seg (fin := n_fin dv_i G) (K := [(81, fun lv st M => n_lC 98 lv 0 (n_lI lv 1 (fun x1 => n_lI lv 2 (fun x2 => n_lI lv 3 (fun x3 => n_lI lv 4 (fun x4 => n_lI lv 5 (fun x5 => n_pE st (fX9_goodMove_81 N G (fun x1 x2 x3 M => fX9_goodMove_50 N G n x1 x2 x3 M) N x1 x2 x3 x4 x5 M))))))))]) 20 (iX9_goodMove N hG) (n_kc (fun lv st M r h => by
      obtain ⟨e0, h1⟩ := n_lC_x h
      obtain ⟨x1, e1, h2⟩ := n_lI_x h1
      obtain ⟨x2, e2, h3⟩ := n_lI_x h2
      obtain ⟨x3, e3, h4⟩ := n_lI_x h3
      obtain ⟨x4, e4, h5⟩ := n_lI_x h4
      obtain ⟨x5, e5, h6⟩ := n_lI_x h5
      obtain ⟨rfl, h7⟩ := n_pE_x h6
      exact n_sub (n_qc e0 (n_qc e1 (n_qc e2 (n_qc e3 (n_qc e4 (n_qc e5 n_qe)))))) (bX9_goodMove_81 N hG (fun x1 x2 x3 M => fX9_goodMove_50 N G n x1 x2 x3 M) ih N x1 x2 x3 x4 x5 M r h7)) n_ke) (by rfl) h
def fX9_goodMove_8 (N : Nat) (G : nG) : Nat → Int32 → Int32 → Int32 → nM → Option (Int32 × nM)
  | 0, _, _, _, _ => none
  | n + 1, x1, x2, x3, M =>
    if (M 41 3) ≤ x3 then
      fX9_goodMove_50 N G N x1 x2 (0 : Int32) M
    else
      (fX7_cell G 41 x3 (0 : Int32) M).bind fun p1 =>
      n_chk (n_ib 256 p1.1) <|
      let v2 : Int32 := (x2 ^^^ (p1.2 99 p1.1.toNatClampNeg))
      let v3 : Int32 := (x3 + (1 : Int32))
      fX9_goodMove_8 N G n x1 v2 v3 p1.2
set_option maxRecDepth 200000 in
theorem bX9_goodMove_8 {l : Launch} {w : nW} (N : Nat) {G : nG} (hG : n_GOK G) : ∀ (n : Nat) (x1 : Int32) (x2 : Int32) (x3 : Int32) (M : nM) (r : Int32 × nM), fX9_goodMove_8 N G n x1 x2 x3 M = some r → n_At l w 3 mX9_goodMove 8 [(0, .ref 98), (1, .int x1), (2, .int x2), (3, .int x3)] [] (G, M) (dv_i r.1, (G, r.2)) := by
  intro n
  induction n with
  | zero => intro x1 x2 x3 M r h; cases (show (none : Option (Int32 × nM)) = some r from h)
  | succ n ih =>
    intro x1 x2 x3 M r h
    exact n_seg (fin := n_fin dv_i G) (K := [(8, fun lv st M => n_lC 98 lv 0 (n_lI lv 1 (fun x1 => n_lI lv 2 (fun x2 => n_lI lv 3 (fun x3 => n_pE st (fX9_goodMove_8 N G n x1 x2 x3 M)))))), (50, fun lv st M => n_lC 98 lv 0 (n_lI lv 1 (fun x1 => n_lI lv 2 (fun x2 => n_lI lv 3 (fun x3 => n_pE st (fX9_goodMove_50 N G N x1 x2 x3 M))))))]) 25 (iX9_goodMove N hG) (n_kc (fun lv st M r h => by
      obtain ⟨e0, h1⟩ := n_lC_x h
      obtain ⟨x1, e1, h2⟩ := n_lI_x h1
      obtain ⟨x2, e2, h3⟩ := n_lI_x h2
      obtain ⟨x3, e3, h4⟩ := n_lI_x h3
      obtain ⟨rfl, h5⟩ := n_pE_x h4
      exact n_sub (n_qc e0 (n_qc e1 (n_qc e2 (n_qc e3 n_qe)))) (ih x1 x2 x3 M r h5)) (n_kc (fun lv st M r h => by
      obtain ⟨e0, h1⟩ := n_lC_x h
      obtain ⟨x1, e1, h2⟩ := n_lI_x h1
      obtain ⟨x2, e2, h3⟩ := n_lI_x h2
      obtain ⟨x3, e3, h4⟩ := n_lI_x h3
      obtain ⟨rfl, h5⟩ := n_pE_x h4
      exact n_sub (n_qc e0 (n_qc e1 (n_qc e2 (n_qc e3 n_qe)))) (bX9_goodMove_50 N hG N x1 x2 x3 M r h5)) n_ke)) (by rfl) h
def fX9_goodMove (N : Nat) (G : nG) (x1 : Int32) (M : nM) : Option (Int32 × nM) :=
  (fX9_weighRows N M).bind fun p1 =>
  fX9_goodMove_8 N G N x1 (0 : Int32) (0 : Int32) p1.2
set_option maxRecDepth 200000 in
theorem bX9_goodMove_0 {l : Launch} {w : nW} (N : Nat) {G : nG} (hG : n_GOK G) (x1 : Int32) (M : nM) (r : Int32 × nM) (h : fX9_goodMove N G x1 M = some r) : n_At l w 3 mX9_goodMove 0 [(0, .ref 98), (1, .int x1)] [] (G, M) (dv_i r.1, (G, r.2)) :=
  n_seg (fin := n_fin dv_i G) (K := [(8, fun lv st M => n_lC 98 lv 0 (n_lI lv 1 (fun x1 => n_lI lv 2 (fun x2 => n_lI lv 3 (fun x3 => n_pE st (fX9_goodMove_8 N G N x1 x2 x3 M))))))]) 9 (iX9_goodMove N hG) (n_kc (fun lv st M r h => by
      obtain ⟨e0, h1⟩ := n_lC_x h
      obtain ⟨x1, e1, h2⟩ := n_lI_x h1
      obtain ⟨x2, e2, h3⟩ := n_lI_x h2
      obtain ⟨x3, e3, h4⟩ := n_lI_x h3
      obtain ⟨rfl, h5⟩ := n_pE_x h4
      exact n_sub (n_qc e0 (n_qc e1 (n_qc e2 (n_qc e3 n_qe)))) (bX9_goodMove_8 N hG N x1 x2 x3 M r h5)) n_ke) (by rfl) h
theorem eX9_goodMove {l : Launch} {w : nW} (N : Nat) {G : nG} (hG : n_GOK G) (z1 : Int32) (M : nM) (r : Int32 × nM) (h : fX9_goodMove N G z1 M = some r) : n_Met l w 3 mX9_goodMove [.ref 98, .int z1] (G, M) (dv_i r.1, (G, r.2)) :=
  n_entry (by decide +kernel) rfl (Nat.le_of_ble_eq_true rfl) (n_sub (lv := [(0, .ref 98), (1, .int z1)]) (n_qc rfl (n_qc rfl n_qe)) (bX9_goodMove_0 N hG z1 M r h))
abbrev hX9_goodMove (N : Nat) (G : nG) : nF := fun T as M k => n_pC 98 as (fun as => n_pI as (fun z1 as => n_pE as ((fX9_goodMove N G z1 M).bind fun p => k (dv_i p.1) p.2)))
theorem csX9_goodMove {l : Launch} {w : nW} (N : Nat) {G : nG} (hG : n_GOK G) : n_CS l w 3 mX9_goodMove G (hX9_goodMove N G) := fun T as M k r h => by
  obtain ⟨t0, rfl, h1⟩ := n_pC_x h
  obtain ⟨z1, t1, rfl, h2⟩ := n_pI_x h1
  obtain ⟨rfl, hE⟩ := n_pE_x h2
  obtain ⟨p, hp, hk⟩ := Option.bind_eq_some_iff.mp hE
  exact ⟨_, _, eX9_goodMove N hG z1 M p hp, hk⟩
/-! ===== SleightHouse.game(I)I ===== -/
def mX11_game : nY := (RX11, yX11_game, cX11_game, 2, some .int)
theorem okX11_game : n_MOK mX11_game 1 := ⟨w_1358, w_137, ⟨by decide +kernel, by decide +kernel, by decide +kernel⟩, by decide⟩
abbrev aX11_game (N : Nat) (G : nG) : List (Nat × nO (Int32 × nM)) := [(0, o_iload 1 1), (1, o_push (.int (0 : Int32)) 2), (2, o_push (.int (1 : Int32)) 3), (3, o_call 3 (hX11_within) 6), (6, oi_eq 29 9), (9, o_aload 0 10), (10, o_gRc 1 98 13), (13, o_iload 1 14), (14, o_push (.int (1 : Int32)) 15), (15, oc_ne 22 18), (18, o_push (.int (1 : Int32)) 19), (19, o_goto 23), (22, o_push (.int (0 : Int32)) 23), (23, o_callVc 98 1 (hX9_goodMove N G) 26), (26, o_goto 30), (29, o_push (.int (-1 : Int32)) 30), (30, o_iret)]
set_option maxRecDepth 200000 in
theorem iX11_game {l : Launch} {w : nW} (N : Nat) {G : nG} (hG : n_GOK G) : n_AllS l w 4 mX11_game G (n_fin dv_i G) (aX11_game N G) :=
  n_c (s_iload_n (pc := 0) (k := 1) (by decide +kernel)) <|
  n_c (s_iconst (pc := 1) (n := 0) (by decide +kernel) (by decide +kernel)) <|
  n_c (s_iconst (pc := 2) (n := 1) (by decide +kernel) (by decide +kernel)) <|
  n_c (s_callS (pc := 3) (csX11_within) (by decide) okX11_within w_610 w_609 (by decide +kernel)) <|
  n_c (s_if_eq (pc := 6) (off := 23) (by decide +kernel) (by decide +kernel)) <|
  n_c (s_aload_n (pc := 9) (k := 0) (by decide +kernel)) <|
  n_c (s_gRc (s_getR (pc := 10) (ci := 11) (k := 5) (idx := 63) nok11 (by decide) rfl (by decide +kernel) w_577) (gk1 hG) (gm1_5 hG)) <|
  n_c (s_iload_n (pc := 13) (k := 1) (by decide +kernel)) <|
  n_c (s_iconst (pc := 14) (n := 1) (by decide +kernel) (by decide +kernel)) <|
  n_c (s_icmp_ne (pc := 15) (off := 7) (by decide +kernel) (by decide +kernel)) <|
  n_c (s_iconst (pc := 18) (n := 1) (by decide +kernel) (by decide +kernel)) <|
  n_c (s_goto (pc := 19) (off := 4) (by decide +kernel) (by decide +kernel)) <|
  n_c (s_iconst (pc := 22) (n := 0) (by decide +kernel) (by decide +kernel)) <|
  n_c (s_callVc (s_callV (pc := 23) (csX9_goodMove N hG) (by decide) okX9_goodMove nok9 w_1360 w_1361 w_1359 (by decide +kernel)) (gk98 hG)) <|
  n_c (s_goto (pc := 26) (off := 4) (by decide +kernel) (by decide +kernel)) <|
  n_c (s_iconst (pc := 29) (n := -1) (by decide +kernel) (by decide +kernel)) <|
  n_c (s_iret (pc := 30) rfl (by decide +kernel)) <|
  n_e
def fX11_game_23 (N : Nat) (G : nG) (s0 : Int32) (M : nM) : Option (Int32 × nM) :=
  (fX9_goodMove N G s0 M).bind fun p1 =>
  some (p1.1, p1.2)
set_option maxRecDepth 200000 in
theorem bX11_game_23 {l : Launch} {w : nW} (N : Nat) {G : nG} (hG : n_GOK G) (s0 : Int32) (M : nM) (r : Int32 × nM) (h : fX11_game_23 N G s0 M = some r) : n_At l w 4 mX11_game 23 [] [.int s0, .ref 98] (G, M) (dv_i r.1, (G, r.2)) :=
  n_seg (fin := n_fin dv_i G) (K := []) 6 (iX11_game N hG) n_ke (by rfl) h
def fX11_game (N : Nat) (G : nG) (x1 : Int32) (M : nM) : Option (Int32 × nM) :=
  (fX11_within x1 (0 : Int32) (1 : Int32) M).bind fun p1 =>
  if p1.1 = 0 then
    some ((-1 : Int32), p1.2)
  else
    if ¬ x1 = (1 : Int32) then
      fX11_game_23 N G (0 : Int32) p1.2
    else
      fX11_game_23 N G (1 : Int32) p1.2
set_option maxRecDepth 200000 in
theorem bX11_game_0 {l : Launch} {w : nW} (N : Nat) {G : nG} (hG : n_GOK G) (x1 : Int32) (M : nM) (r : Int32 × nM) (h : fX11_game N G x1 M = some r) : n_At l w 4 mX11_game 0 [(0, .ref 1), (1, .int x1)] [] (G, M) (dv_i r.1, (G, r.2)) :=
  n_seg (fin := n_fin dv_i G) (K := [(23, fun lv st M => n_pI st (fun s0 st => n_pC 98 st (fun st => n_pE st (fX11_game_23 N G s0 M))))]) 18 (iX11_game N hG) (n_kc (fun lv st M r h => by
      obtain ⟨s0, t0, rfl, h1⟩ := n_pI_x h
      obtain ⟨t1, rfl, h2⟩ := n_pC_x h1
      obtain ⟨rfl, h3⟩ := n_pE_x h2
      exact n_sub n_qe (bX11_game_23 N hG s0 M r h3)) n_ke) (by rfl) h
theorem eX11_game {l : Launch} {w : nW} (N : Nat) {G : nG} (hG : n_GOK G) (z1 : Int32) (M : nM) (r : Int32 × nM) (h : fX11_game N G z1 M = some r) : n_Met l w 4 mX11_game [.ref 1, .int z1] (G, M) (dv_i r.1, (G, r.2)) :=
  n_entry (by decide +kernel) rfl (Nat.le_of_ble_eq_true rfl) (n_sub (lv := [(0, .ref 1), (1, .int z1)]) (n_qc rfl (n_qc rfl n_qe)) (bX11_game_0 N hG z1 M r h))
abbrev hX11_game (N : Nat) (G : nG) : nF := fun T as M k => n_pC 1 as (fun as => n_pI as (fun z1 as => n_pE as ((fX11_game N G z1 M).bind fun p => k (dv_i p.1) p.2)))
theorem csX11_game {l : Launch} {w : nW} (N : Nat) {G : nG} (hG : n_GOK G) : n_CS l w 4 mX11_game G (hX11_game N G) := fun T as M k r h => by
  obtain ⟨t0, rfl, h1⟩ := n_pC_x h
  obtain ⟨z1, t1, rfl, h2⟩ := n_pI_x h1
  obtain ⟨rfl, hE⟩ := n_pE_x h2
  obtain ⟨p, hp, hk⟩ := Option.bind_eq_some_iff.mp hE
  exact ⟨_, _, eX11_game N hG z1 M p hp, hk⟩
/-! ===== SleightHouseModel.findsNimbers()V ===== -/
def mX12_findsNimbers : nY := (RX12, yX12_findsNimbers, cX12_findsNimbers, 4, none)
theorem okX12_findsNimbers : n_MOK mX12_findsNimbers 0 := ⟨w_2156, w_151, ⟨by decide +kernel, by decide +kernel, by decide +kernel⟩, by decide⟩
abbrev aX12_findsNimbers (N : Nat) : List (Nat × nO (Unit × nM)) := [(0, o_push (.int (0 : Int32)) 1), (1, o_istore 4 1 2), (2, o_iload 1 3), (3, o_push (.int (31 : Int32)) 5), (5, oc_ge 71 8), (8, o_push (.int (0 : Int32)) 9), (9, o_istore 4 2 10), (10, o_push (.int (1 : Int32)) 11), (11, o_istore 4 3 12), (12, o_iload 3 13), (13, o_iload 1 14), (14, o_push (.int (1 : Int32)) 15), (15, o_iadd 16), (16, o_push (.int (2 : Int32)) 17), (17, o_idiv 18), (18, oc_gt 40 21), (21, o_iload 2 22), (22, o_push (.int (1 : Int32)) 23), (23, o_aload 0 24), (24, o_gRc 107 150 27), (27, o_iload 1 28), (28, o_iload 3 29), (29, o_isub 30), (30, o_aldc 150 31 31), (31, o_ishl 32), (32, o_ior 33), (33, o_istore 4 2 34), (34, o_inc 4 3 (1 : Int32) 37), (37, o_goto 12), (40, o_push (.int (0 : Int32)) 41), (41, o_istore 4 3 42), (42, o_aload 0 43), (43, o_iload 2 44), (44, o_iload 3 45), (45, o_callVc 107 2 (hX12_has) 48), (48, oi_eq 58 51), (51, o_iload 3 52), (52, o_push (.int (1 : Int32)) 53), (53, o_iadd 54), (54, o_istore 4 3 55), (55, o_goto 42), (58, o_aload 0 59), (59, o_gRc 107 150 62), (62, o_iload 1 63), (63, o_iload 3 64), (64, o_iastc 150 31 65), (65, o_inc 4 1 (1 : Int32) 68), (68, o_goto 2), (71, o_vret)]
set_option maxRecDepth 200000 in
theorem iX12_findsNimbers {l : Launch} {w : nW} (N : Nat) {G : nG} (hG : n_GOK G) : n_AllS l w 1 mX12_findsNimbers G (n_fin dv_v G) (aX12_findsNimbers N) :=
  n_c (s_iconst (pc := 0) (n := 0) (by decide +kernel) (by decide +kernel)) <|
  n_c (s_istore_n (pc := 1) (k := 1) (by decide +kernel)) <|
  n_c (s_iload_n (pc := 2) (k := 1) (by decide +kernel)) <|
  n_c (s_bipush (pc := 3) (n := 31) (by decide +kernel) (by decide +kernel)) <|
  n_c (s_icmp_ge (pc := 5) (off := 66) (by decide +kernel) (by decide +kernel)) <|
  n_c (s_iconst (pc := 8) (n := 0) (by decide +kernel) (by decide +kernel)) <|
  n_c (s_istore_n (pc := 9) (k := 2) (by decide +kernel)) <|
  n_c (s_iconst (pc := 10) (n := 1) (by decide +kernel) (by decide +kernel)) <|
  n_c (s_istore_n (pc := 11) (k := 3) (by decide +kernel)) <|
  n_c (s_iload_n (pc := 12) (k := 3) (by decide +kernel)) <|
  n_c (s_iload_n (pc := 13) (k := 1) (by decide +kernel)) <|
  n_c (s_iconst (pc := 14) (n := 1) (by decide +kernel) (by decide +kernel)) <|
  n_c (s_iadd (pc := 15) (by decide +kernel)) <|
  n_c (s_iconst (pc := 16) (n := 2) (by decide +kernel) (by decide +kernel)) <|
  n_c (s_idiv (pc := 17) (by decide +kernel)) <|
  n_c (s_icmp_gt (pc := 18) (off := 22) (by decide +kernel) (by decide +kernel)) <|
  n_c (s_iload_n (pc := 21) (k := 2) (by decide +kernel)) <|
  n_c (s_iconst (pc := 22) (n := 1) (by decide +kernel) (by decide +kernel)) <|
  n_c (s_aload_n (pc := 23) (k := 0) (by decide +kernel)) <|
  n_c (s_gRc (s_getR (pc := 24) (ci := 12) (k := 74) (idx := 140) nok12 (by decide) rfl (by decide +kernel) w_1481) (gk107 hG) (gm107_74 hG)) <|
  n_c (s_iload_n (pc := 27) (k := 1) (by decide +kernel)) <|
  n_c (s_iload_n (pc := 28) (k := 3) (by decide +kernel)) <|
  n_c (s_isub (pc := 29) (by decide +kernel)) <|
  n_c (s_aldc (s_iaload (pc := 30) (by decide +kernel)) (gk150 hG) (gl150 hG)) <|
  n_c (s_ishl (pc := 31) (by decide +kernel)) <|
  n_c (s_ior (pc := 32) (by decide +kernel)) <|
  n_c (s_istore_n (pc := 33) (k := 2) (by decide +kernel)) <|
  n_c (s_iinc (pc := 34) (n := 1) (by decide +kernel) (by decide +kernel)) <|
  n_c (s_goto (pc := 37) (off := -25) (by decide +kernel) (by decide +kernel)) <|
  n_c (s_iconst (pc := 40) (n := 0) (by decide +kernel) (by decide +kernel)) <|
  n_c (s_istore_n (pc := 41) (k := 3) (by decide +kernel)) <|
  n_c (s_aload_n (pc := 42) (k := 0) (by decide +kernel)) <|
  n_c (s_iload_n (pc := 43) (k := 2) (by decide +kernel)) <|
  n_c (s_iload_n (pc := 44) (k := 3) (by decide +kernel)) <|
  n_c (s_callVc (s_callV (pc := 45) (csX12_has) (by decide) okX12_has nok12 w_2013 w_114 w_2011 (by decide +kernel)) (gk107 hG)) <|
  n_c (s_if_eq (pc := 48) (off := 10) (by decide +kernel) (by decide +kernel)) <|
  n_c (s_iload_n (pc := 51) (k := 3) (by decide +kernel)) <|
  n_c (s_iconst (pc := 52) (n := 1) (by decide +kernel) (by decide +kernel)) <|
  n_c (s_iadd (pc := 53) (by decide +kernel)) <|
  n_c (s_istore_n (pc := 54) (k := 3) (by decide +kernel)) <|
  n_c (s_goto (pc := 55) (off := -13) (by decide +kernel) (by decide +kernel)) <|
  n_c (s_aload_n (pc := 58) (k := 0) (by decide +kernel)) <|
  n_c (s_gRc (s_getR (pc := 59) (ci := 12) (k := 74) (idx := 140) nok12 (by decide) rfl (by decide +kernel) w_1481) (gk107 hG) (gm107_74 hG)) <|
  n_c (s_iload_n (pc := 62) (k := 1) (by decide +kernel)) <|
  n_c (s_iload_n (pc := 63) (k := 3) (by decide +kernel)) <|
  n_c (s_iastc (s_iastore (pc := 64) (by decide +kernel)) (gk150 hG) (gl150 hG)) <|
  n_c (s_iinc (pc := 65) (n := 1) (by decide +kernel) (by decide +kernel)) <|
  n_c (s_goto (pc := 68) (off := -66) (by decide +kernel) (by decide +kernel)) <|
  n_c (s_vret (pc := 71) rfl (by decide +kernel)) <|
  n_e
def fX12_findsNimbers_42 (N : Nat) (k2 : Int32 → nM → Option (Unit × nM)) : Nat → Int32 → Int32 → Int32 → nM → Option (Unit × nM)
  | 0, _, _, _, _ => none
  | n + 1, x1, x2, x3, M =>
    (fX12_has x2 x3 M).bind fun p1 =>
    if p1.1 = 0 then
      n_chk (n_ib 31 x1) <|
      let M2 : nM := n_up p1.2 150 x1.toNatClampNeg x3
      let v3 : Int32 := (x1 + (1 : Int32))
      k2 v3 M2
    else
      let v4 : Int32 := (x3 + (1 : Int32))
      fX12_findsNimbers_42 N k2 n x1 x2 v4 p1.2
set_option maxRecDepth 200000 in
theorem bX12_findsNimbers_42 {l : Launch} {w : nW} (N : Nat) {G : nG} (hG : n_GOK G) (k2 : Int32 → nM → Option (Unit × nM)) (hk2 : ∀ (x1 : Int32) (M : nM) (r : Unit × nM), k2 x1 M = some r → n_At l w 1 mX12_findsNimbers 2 [(0, .ref 107), (1, .int x1)] [] (G, M) (dv_v r.1, (G, r.2))) : ∀ (n : Nat) (x1 : Int32) (x2 : Int32) (x3 : Int32) (M : nM) (r : Unit × nM), fX12_findsNimbers_42 N k2 n x1 x2 x3 M = some r → n_At l w 1 mX12_findsNimbers 42 [(0, .ref 107), (1, .int x1), (2, .int x2), (3, .int x3)] [] (G, M) (dv_v r.1, (G, r.2)) := by
  intro n
  induction n with
  | zero => intro x1 x2 x3 M r h; cases (show (none : Option (Unit × nM)) = some r from h)
  | succ n ih =>
    intro x1 x2 x3 M r h
    exact n_seg (fin := n_fin dv_v G) (K := [(2, fun lv st M => n_lC 107 lv 0 (n_lI lv 1 (fun x1 => n_pE st (k2 x1 M)))), (42, fun lv st M => n_lC 107 lv 0 (n_lI lv 1 (fun x1 => n_lI lv 2 (fun x2 => n_lI lv 3 (fun x3 => n_pE st (fX12_findsNimbers_42 N k2 n x1 x2 x3 M))))))]) 20 (iX12_findsNimbers N hG) (n_kc (fun lv st M r h => by
      obtain ⟨e0, h1⟩ := n_lC_x h
      obtain ⟨x1, e1, h2⟩ := n_lI_x h1
      obtain ⟨rfl, h3⟩ := n_pE_x h2
      exact n_sub (n_qc e0 (n_qc e1 n_qe)) (hk2 x1 M r h3)) (n_kc (fun lv st M r h => by
      obtain ⟨e0, h1⟩ := n_lC_x h
      obtain ⟨x1, e1, h2⟩ := n_lI_x h1
      obtain ⟨x2, e2, h3⟩ := n_lI_x h2
      obtain ⟨x3, e3, h4⟩ := n_lI_x h3
      obtain ⟨rfl, h5⟩ := n_pE_x h4
      exact n_sub (n_qc e0 (n_qc e1 (n_qc e2 (n_qc e3 n_qe)))) (ih x1 x2 x3 M r h5)) n_ke)) (by rfl) h
def fX12_findsNimbers_12 (N : Nat) (k2 : Int32 → nM → Option (Unit × nM)) : Nat → Int32 → Int32 → Int32 → nM → Option (Unit × nM)
  | 0, _, _, _, _ => none
  | n + 1, x1, x2, x3, M =>
    if (2 : Int32) = 0 then none else
    if ((x1 + (1 : Int32)) / (2 : Int32)) < x3 then
      fX12_findsNimbers_42 N k2 N x1 x2 (0 : Int32) M
    else
      n_chk (n_ib 31 (x1 - x3)) <|
      let v1 : Int32 := (x2 ||| ((1 : Int32) <<< ((M 150 (x1 - x3).toNatClampNeg) &&& 31)))
      let v2 : Int32 := (x3 + (1 : Int32))
      fX12_findsNimbers_12 N k2 n x1 v1 v2 M
set_option maxRecDepth 200000 in
theorem bX12_findsNimbers_12 {l : Launch} {w : nW} (N : Nat) {G : nG} (hG : n_GOK G) (k2 : Int32 → nM → Option (Unit × nM)) (hk2 : ∀ (x1 : Int32) (M : nM) (r : Unit × nM), k2 x1 M = some r → n_At l w 1 mX12_findsNimbers 2 [(0, .ref 107), (1, .int x1)] [] (G, M) (dv_v r.1, (G, r.2))) : ∀ (n : Nat) (x1 : Int32) (x2 : Int32) (x3 : Int32) (M : nM) (r : Unit × nM), fX12_findsNimbers_12 N k2 n x1 x2 x3 M = some r → n_At l w 1 mX12_findsNimbers 12 [(0, .ref 107), (1, .int x1), (2, .int x2), (3, .int x3)] [] (G, M) (dv_v r.1, (G, r.2)) := by
  intro n
  induction n with
  | zero => intro x1 x2 x3 M r h; cases (show (none : Option (Unit × nM)) = some r from h)
  | succ n ih =>
    intro x1 x2 x3 M r h
    exact n_seg (fin := n_fin dv_v G) (K := [(12, fun lv st M => n_lC 107 lv 0 (n_lI lv 1 (fun x1 => n_lI lv 2 (fun x2 => n_lI lv 3 (fun x3 => n_pE st (fX12_findsNimbers_12 N k2 n x1 x2 x3 M)))))), (42, fun lv st M => n_lC 107 lv 0 (n_lI lv 1 (fun x1 => n_lI lv 2 (fun x2 => n_lI lv 3 (fun x3 => n_pE st (fX12_findsNimbers_42 N k2 N x1 x2 x3 M))))))]) 25 (iX12_findsNimbers N hG) (n_kc (fun lv st M r h => by
      obtain ⟨e0, h1⟩ := n_lC_x h
      obtain ⟨x1, e1, h2⟩ := n_lI_x h1
      obtain ⟨x2, e2, h3⟩ := n_lI_x h2
      obtain ⟨x3, e3, h4⟩ := n_lI_x h3
      obtain ⟨rfl, h5⟩ := n_pE_x h4
      exact n_sub (n_qc e0 (n_qc e1 (n_qc e2 (n_qc e3 n_qe)))) (ih x1 x2 x3 M r h5)) (n_kc (fun lv st M r h => by
      obtain ⟨e0, h1⟩ := n_lC_x h
      obtain ⟨x1, e1, h2⟩ := n_lI_x h1
      obtain ⟨x2, e2, h3⟩ := n_lI_x h2
      obtain ⟨x3, e3, h4⟩ := n_lI_x h3
      obtain ⟨rfl, h5⟩ := n_pE_x h4
      exact n_sub (n_qc e0 (n_qc e1 (n_qc e2 (n_qc e3 n_qe)))) (bX12_findsNimbers_42 N hG k2 hk2 N x1 x2 x3 M r h5)) n_ke)) (by rfl) h
def fX12_findsNimbers_2 (N : Nat) : Nat → Int32 → nM → Option (Unit × nM)
  | 0, _, _ => none
  | n + 1, x1, M =>
    if (31 : Int32) ≤ x1 then
      some ((), M)
    else
      fX12_findsNimbers_12 N (fun x1 M => fX12_findsNimbers_2 N n x1 M) N x1 (0 : Int32) (1 : Int32) M
set_option maxRecDepth 200000 in
theorem bX12_findsNimbers_2 {l : Launch} {w : nW} (N : Nat) {G : nG} (hG : n_GOK G) : ∀ (n : Nat) (x1 : Int32) (M : nM) (r : Unit × nM), fX12_findsNimbers_2 N n x1 M = some r → n_At l w 1 mX12_findsNimbers 2 [(0, .ref 107), (1, .int x1)] [] (G, M) (dv_v r.1, (G, r.2)) := by
  intro n
  induction n with
  | zero => intro x1 M r h; cases (show (none : Option (Unit × nM)) = some r from h)
  | succ n ih =>
    intro x1 M r h
    exact n_seg (fin := n_fin dv_v G) (K := [(12, fun lv st M => n_lC 107 lv 0 (n_lI lv 1 (fun x1 => n_lI lv 2 (fun x2 => n_lI lv 3 (fun x3 => n_pE st (fX12_findsNimbers_12 N (fun x1 M => fX12_findsNimbers_2 N n x1 M) N x1 x2 x3 M))))))]) 11 (iX12_findsNimbers N hG) (n_kc (fun lv st M r h => by
      obtain ⟨e0, h1⟩ := n_lC_x h
      obtain ⟨x1, e1, h2⟩ := n_lI_x h1
      obtain ⟨x2, e2, h3⟩ := n_lI_x h2
      obtain ⟨x3, e3, h4⟩ := n_lI_x h3
      obtain ⟨rfl, h5⟩ := n_pE_x h4
      exact n_sub (n_qc e0 (n_qc e1 (n_qc e2 (n_qc e3 n_qe)))) (bX12_findsNimbers_12 N hG (fun x1 M => fX12_findsNimbers_2 N n x1 M) ih N x1 x2 x3 M r h5)) n_ke) (by rfl) h
def fX12_findsNimbers (N : Nat) (M : nM) : Option (Unit × nM) :=
  fX12_findsNimbers_2 N N (0 : Int32) M
set_option maxRecDepth 200000 in
theorem bX12_findsNimbers_0 {l : Launch} {w : nW} (N : Nat) {G : nG} (hG : n_GOK G) (M : nM) (r : Unit × nM) (h : fX12_findsNimbers N M = some r) : n_At l w 1 mX12_findsNimbers 0 [(0, .ref 107)] [] (G, M) (dv_v r.1, (G, r.2)) :=
  n_seg (fin := n_fin dv_v G) (K := [(2, fun lv st M => n_lC 107 lv 0 (n_lI lv 1 (fun x1 => n_pE st (fX12_findsNimbers_2 N N x1 M))))]) 5 (iX12_findsNimbers N hG) (n_kc (fun lv st M r h => by
      obtain ⟨e0, h1⟩ := n_lC_x h
      obtain ⟨x1, e1, h2⟩ := n_lI_x h1
      obtain ⟨rfl, h3⟩ := n_pE_x h2
      exact n_sub (n_qc e0 (n_qc e1 n_qe)) (bX12_findsNimbers_2 N hG N x1 M r h3)) n_ke) (by rfl) h
theorem eX12_findsNimbers {l : Launch} {w : nW} (N : Nat) {G : nG} (hG : n_GOK G) (M : nM) (r : Unit × nM) (h : fX12_findsNimbers N M = some r) : n_Met l w 1 mX12_findsNimbers [.ref 107] (G, M) (dv_v r.1, (G, r.2)) :=
  n_entry (by decide +kernel) rfl (Nat.le_of_ble_eq_true rfl) (n_sub (lv := [(0, .ref 107)]) (n_qc rfl n_qe) (bX12_findsNimbers_0 N hG M r h))
abbrev hX12_findsNimbers (N : Nat) : nF := fun T as M k => n_pC 107 as (fun as => n_pE as ((fX12_findsNimbers N M).bind fun p => k (dv_v p.1) p.2))
theorem csX12_findsNimbers {l : Launch} {w : nW} (N : Nat) {G : nG} (hG : n_GOK G) : n_CS l w 1 mX12_findsNimbers G (hX12_findsNimbers N) := fun T as M k r h => by
  obtain ⟨t0, rfl, h1⟩ := n_pC_x h
  obtain ⟨rfl, hE⟩ := n_pE_x h1
  obtain ⟨p, hp, hk⟩ := Option.bind_eq_some_iff.mp hE
  exact ⟨_, _, eX12_findsNimbers N hG M p hp, hk⟩
/-! ===== SleightHouseModel.game(I)I ===== -/
def mX12_game : nY := (RX12, yX12_game, cX12_game, 7, some .int)
theorem okX12_game : n_MOK mX12_game 1 := ⟨w_2152, w_151, ⟨by decide +kernel, by decide +kernel, by decide +kernel⟩, by decide⟩
abbrev aX12_game (N : Nat) : List (Nat × nO (Int32 × nM)) := [(0, o_aload 0 1), (1, o_push (.int (0 : Int32)) 2), (2, o_pIc 107 0 5), (5, o_aload 0 6), (6, o_iload 1 7), (7, o_push (.int (0 : Int32)) 8), (8, o_push (.int (1 : Int32)) 9), (9, o_callVc 107 3 (hX12_isIn) 12), (12, oi_ne 17 15), (15, o_push (.int (-1 : Int32)) 16), (16, o_iret), (17, o_aload 0 18), (18, o_callVc 107 0 (hX12_findsNimbers N) 21), (21, o_push (.int (0 : Int32)) 22), (22, o_istore 7 2 23), (23, o_push (.int (0 : Int32)) 24), (24, o_istore 7 3 25), (25, o_iload 3 26), (26, o_aload 0 27), (27, o_gIc 107 72 30), (30, oc_ge 53 33), (33, o_iload 2 34), (34, o_aload 0 35), (35, o_gRc 107 150 38), (38, o_aload 0 39), (39, o_gRc 107 149 42), (42, o_iload 3 43), (43, o_aldc 149 5 44), (44, o_aldc 150 31 45), (45, o_ixor 46), (46, o_istore 7 2 47), (47, o_inc 7 3 (1 : Int32) 50), (50, o_goto 25), (53, o_push (.int (0 : Int32)) 54), (54, o_istore 7 3 55), (55, o_iload 3 56), (56, o_aload 0 57), (57, o_gIc 107 72 60), (60, oc_ge 134 63), (63, o_aload 0 64), (64, o_gRc 107 149 67), (67, o_iload 3 68), (68, o_aldc 149 5 69), (69, o_istore 7 4 71), (71, o_iload 2 72), (72, o_aload 0 73), (73, o_gRc 107 150 76), (76, o_iload 4 78), (78, o_aldc 150 31 79), (79, o_ixor 80), (80, o_istore 7 5 82), (82, o_push (.int (1 : Int32)) 83), (83, o_istore 7 6 85), (85, o_iload 6 87), (87, o_iload 4 89), (89, o_push (.int (1 : Int32)) 90), (90, o_iadd 91), (91, o_push (.int (2 : Int32)) 92), (92, o_idiv 93), (93, oc_gt 128 96), (96, o_aload 0 97), (97, o_gRc 107 150 100), (100, o_iload 4 102), (102, o_iload 6 104), (104, o_isub 105), (105, o_aldc 150 31 106), (106, o_iload 5 108), (108, oc_ne 122 111), (111, o_iload 1 112), (112, oi_ne 119 115), (115, o_iload 3 116), (116, o_goto 121), (119, o_iload 6 121), (121, o_iret), (122, o_inc 7 6 (1 : Int32) 125), (125, o_goto 85), (128, o_inc 7 3 (1 : Int32) 131), (131, o_goto 55), (134, o_push (.int (-1 : Int32)) 135), (135, o_iret)]
set_option maxRecDepth 200000 in
theorem iX12_game {l : Launch} {w : nW} (N : Nat) {G : nG} (hG : n_GOK G) : n_AllS l w 2 mX12_game G (n_fin dv_i G) (aX12_game N) :=
  n_c (s_aload_n (pc := 0) (k := 0) (by decide +kernel)) <|
  n_c (s_iconst (pc := 1) (n := 0) (by decide +kernel) (by decide +kernel)) <|
  n_c (s_pIc (s_putI (pc := 2) (ci := 12) (k := 0) (idx := 146) nok12 (by decide) rfl rfl (by decide +kernel) w_1407) (gk107 hG)) <|
  n_c (s_aload_n (pc := 5) (k := 0) (by decide +kernel)) <|
  n_c (s_iload_n (pc := 6) (k := 1) (by decide +kernel)) <|
  n_c (s_iconst (pc := 7) (n := 0) (by decide +kernel) (by decide +kernel)) <|
  n_c (s_iconst (pc := 8) (n := 1) (by decide +kernel) (by decide +kernel)) <|
  n_c (s_callVc (s_callV (pc := 9) (csX12_isIn) (by decide) okX12_isIn nok12 w_1659 w_46 w_1657 (by decide +kernel)) (gk107 hG)) <|
  n_c (s_if_ne (pc := 12) (off := 5) (by decide +kernel) (by decide +kernel)) <|
  n_c (s_iconst (pc := 15) (n := -1) (by decide +kernel) (by decide +kernel)) <|
  n_c (s_iret (pc := 16) rfl (by decide +kernel)) <|
  n_c (s_aload_n (pc := 17) (k := 0) (by decide +kernel)) <|
  n_c (s_callVc (s_callV (pc := 18) (csX12_findsNimbers N hG) (by decide) okX12_findsNimbers nok12 w_2155 w_129 w_2153 (by decide +kernel)) (gk107 hG)) <|
  n_c (s_iconst (pc := 21) (n := 0) (by decide +kernel) (by decide +kernel)) <|
  n_c (s_istore_n (pc := 22) (k := 2) (by decide +kernel)) <|
  n_c (s_iconst (pc := 23) (n := 0) (by decide +kernel) (by decide +kernel)) <|
  n_c (s_istore_n (pc := 24) (k := 3) (by decide +kernel)) <|
  n_c (s_iload_n (pc := 25) (k := 3) (by decide +kernel)) <|
  n_c (s_aload_n (pc := 26) (k := 0) (by decide +kernel)) <|
  n_c (s_gIc (s_getI (pc := 27) (ci := 12) (k := 72) (idx := 502) nok12 (by decide) rfl (by decide +kernel) w_1479) (gk107 hG)) <|
  n_c (s_icmp_ge (pc := 30) (off := 23) (by decide +kernel) (by decide +kernel)) <|
  n_c (s_iload_n (pc := 33) (k := 2) (by decide +kernel)) <|
  n_c (s_aload_n (pc := 34) (k := 0) (by decide +kernel)) <|
  n_c (s_gRc (s_getR (pc := 35) (ci := 12) (k := 74) (idx := 140) nok12 (by decide) rfl (by decide +kernel) w_1481) (gk107 hG) (gm107_74 hG)) <|
  n_c (s_aload_n (pc := 38) (k := 0) (by decide +kernel)) <|
  n_c (s_gRc (s_getR (pc := 39) (ci := 12) (k := 73) (idx := 137) nok12 (by decide) rfl (by decide +kernel) w_1480) (gk107 hG) (gm107_73 hG)) <|
  n_c (s_iload_n (pc := 42) (k := 3) (by decide +kernel)) <|
  n_c (s_aldc (s_iaload (pc := 43) (by decide +kernel)) (gk149 hG) (gl149 hG)) <|
  n_c (s_aldc (s_iaload (pc := 44) (by decide +kernel)) (gk150 hG) (gl150 hG)) <|
  n_c (s_ixor (pc := 45) (by decide +kernel)) <|
  n_c (s_istore_n (pc := 46) (k := 2) (by decide +kernel)) <|
  n_c (s_iinc (pc := 47) (n := 1) (by decide +kernel) (by decide +kernel)) <|
  n_c (s_goto (pc := 50) (off := -25) (by decide +kernel) (by decide +kernel)) <|
  n_c (s_iconst (pc := 53) (n := 0) (by decide +kernel) (by decide +kernel)) <|
  n_c (s_istore_n (pc := 54) (k := 3) (by decide +kernel)) <|
  n_c (s_iload_n (pc := 55) (k := 3) (by decide +kernel)) <|
  n_c (s_aload_n (pc := 56) (k := 0) (by decide +kernel)) <|
  n_c (s_gIc (s_getI (pc := 57) (ci := 12) (k := 72) (idx := 502) nok12 (by decide) rfl (by decide +kernel) w_1479) (gk107 hG)) <|
  n_c (s_icmp_ge (pc := 60) (off := 74) (by decide +kernel) (by decide +kernel)) <|
  n_c (s_aload_n (pc := 63) (k := 0) (by decide +kernel)) <|
  n_c (s_gRc (s_getR (pc := 64) (ci := 12) (k := 73) (idx := 137) nok12 (by decide) rfl (by decide +kernel) w_1480) (gk107 hG) (gm107_73 hG)) <|
  n_c (s_iload_n (pc := 67) (k := 3) (by decide +kernel)) <|
  n_c (s_aldc (s_iaload (pc := 68) (by decide +kernel)) (gk149 hG) (gl149 hG)) <|
  n_c (s_istore (pc := 69) (by decide +kernel)) <|
  n_c (s_iload_n (pc := 71) (k := 2) (by decide +kernel)) <|
  n_c (s_aload_n (pc := 72) (k := 0) (by decide +kernel)) <|
  n_c (s_gRc (s_getR (pc := 73) (ci := 12) (k := 74) (idx := 140) nok12 (by decide) rfl (by decide +kernel) w_1481) (gk107 hG) (gm107_74 hG)) <|
  n_c (s_iload (pc := 76) (by decide +kernel)) <|
  n_c (s_aldc (s_iaload (pc := 78) (by decide +kernel)) (gk150 hG) (gl150 hG)) <|
  n_c (s_ixor (pc := 79) (by decide +kernel)) <|
  n_c (s_istore (pc := 80) (by decide +kernel)) <|
  n_c (s_iconst (pc := 82) (n := 1) (by decide +kernel) (by decide +kernel)) <|
  n_c (s_istore (pc := 83) (by decide +kernel)) <|
  n_c (s_iload (pc := 85) (by decide +kernel)) <|
  n_c (s_iload (pc := 87) (by decide +kernel)) <|
  n_c (s_iconst (pc := 89) (n := 1) (by decide +kernel) (by decide +kernel)) <|
  n_c (s_iadd (pc := 90) (by decide +kernel)) <|
  n_c (s_iconst (pc := 91) (n := 2) (by decide +kernel) (by decide +kernel)) <|
  n_c (s_idiv (pc := 92) (by decide +kernel)) <|
  n_c (s_icmp_gt (pc := 93) (off := 35) (by decide +kernel) (by decide +kernel)) <|
  n_c (s_aload_n (pc := 96) (k := 0) (by decide +kernel)) <|
  n_c (s_gRc (s_getR (pc := 97) (ci := 12) (k := 74) (idx := 140) nok12 (by decide) rfl (by decide +kernel) w_1481) (gk107 hG) (gm107_74 hG)) <|
  n_c (s_iload (pc := 100) (by decide +kernel)) <|
  n_c (s_iload (pc := 102) (by decide +kernel)) <|
  n_c (s_isub (pc := 104) (by decide +kernel)) <|
  n_c (s_aldc (s_iaload (pc := 105) (by decide +kernel)) (gk150 hG) (gl150 hG)) <|
  n_c (s_iload (pc := 106) (by decide +kernel)) <|
  n_c (s_icmp_ne (pc := 108) (off := 14) (by decide +kernel) (by decide +kernel)) <|
  n_c (s_iload_n (pc := 111) (k := 1) (by decide +kernel)) <|
  n_c (s_if_ne (pc := 112) (off := 7) (by decide +kernel) (by decide +kernel)) <|
  n_c (s_iload_n (pc := 115) (k := 3) (by decide +kernel)) <|
  n_c (s_goto (pc := 116) (off := 5) (by decide +kernel) (by decide +kernel)) <|
  n_c (s_iload (pc := 119) (by decide +kernel)) <|
  n_c (s_iret (pc := 121) rfl (by decide +kernel)) <|
  n_c (s_iinc (pc := 122) (n := 1) (by decide +kernel) (by decide +kernel)) <|
  n_c (s_goto (pc := 125) (off := -40) (by decide +kernel) (by decide +kernel)) <|
  n_c (s_iinc (pc := 128) (n := 1) (by decide +kernel) (by decide +kernel)) <|
  n_c (s_goto (pc := 131) (off := -76) (by decide +kernel) (by decide +kernel)) <|
  n_c (s_iconst (pc := 134) (n := -1) (by decide +kernel) (by decide +kernel)) <|
  n_c (s_iret (pc := 135) rfl (by decide +kernel)) <|
  n_e
def fX12_game_85 (N : Nat) (k55 : Int32 → Int32 → Int32 → nM → Option (Int32 × nM)) : Nat → Int32 → Int32 → Int32 → Int32 → Int32 → Int32 → nM → Option (Int32 × nM)
  | 0, _, _, _, _, _, _, _ => none
  | n + 1, x1, x2, x3, x4, x5, x6, M =>
    if (2 : Int32) = 0 then none else
    if ((x4 + (1 : Int32)) / (2 : Int32)) < x6 then
      let v1 : Int32 := (x3 + (1 : Int32))
      k55 x1 x2 v1 M
    else
      n_chk (n_ib 31 (x4 - x6)) <|
      if ¬ (M 150 (x4 - x6).toNatClampNeg) = x5 then
        let v2 : Int32 := (x6 + (1 : Int32))
        fX12_game_85 N k55 n x1 x2 x3 x4 x5 v2 M
      else
        if ¬ x1 = 0 then
          some (x6, M)
        else
          some (x3, M)
set_option maxRecDepth 200000 in
theorem bX12_game_85 {l : Launch} {w : nW} (N : Nat) {G : nG} (hG : n_GOK G) (k55 : Int32 → Int32 → Int32 → nM → Option (Int32 × nM)) (hk55 : ∀ (x1 : Int32) (x2 : Int32) (x3 : Int32) (M : nM) (r : Int32 × nM), k55 x1 x2 x3 M = some r → n_At l w 2 mX12_game 55 [(0, .ref 107), (1, .int x1), (2, .int x2), (3, .int x3)] [] (G, M) (dv_i r.1, (G, r.2))) : ∀ (n : Nat) (x1 : Int32) (x2 : Int32) (x3 : Int32) (x4 : Int32) (x5 : Int32) (x6 : Int32) (M : nM) (r : Int32 × nM), fX12_game_85 N k55 n x1 x2 x3 x4 x5 x6 M = some r → n_At l w 2 mX12_game 85 [(0, .ref 107), (1, .int x1), (2, .int x2), (3, .int x3), (4, .int x4), (5, .int x5), (6, .int x6)] [] (G, M) (dv_i r.1, (G, r.2)) := by
  intro n
  induction n with
  | zero => intro x1 x2 x3 x4 x5 x6 M r h; cases (show (none : Option (Int32 × nM)) = some r from h)
  | succ n ih =>
    intro x1 x2 x3 x4 x5 x6 M r h
    exact n_seg (fin := n_fin dv_i G) (K := [(55, fun lv st M => n_lC 107 lv 0 (n_lI lv 1 (fun x1 => n_lI lv 2 (fun x2 => n_lI lv 3 (fun x3 => n_pE st (k55 x1 x2 x3 M)))))), (85, fun lv st M => n_lC 107 lv 0 (n_lI lv 1 (fun x1 => n_lI lv 2 (fun x2 => n_lI lv 3 (fun x3 => n_lI lv 4 (fun x4 => n_lI lv 5 (fun x5 => n_lI lv 6 (fun x6 => n_pE st (fX12_game_85 N k55 n x1 x2 x3 x4 x5 x6 M)))))))))]) 29 (iX12_game N hG) (n_kc (fun lv st M r h => by
      obtain ⟨e0, h1⟩ := n_lC_x h
      obtain ⟨x1, e1, h2⟩ := n_lI_x h1
      obtain ⟨x2, e2, h3⟩ := n_lI_x h2
      obtain ⟨x3, e3, h4⟩ := n_lI_x h3
      obtain ⟨rfl, h5⟩ := n_pE_x h4
      exact n_sub (n_qc e0 (n_qc e1 (n_qc e2 (n_qc e3 n_qe)))) (hk55 x1 x2 x3 M r h5)) (n_kc (fun lv st M r h => by
      obtain ⟨e0, h1⟩ := n_lC_x h
      obtain ⟨x1, e1, h2⟩ := n_lI_x h1
      obtain ⟨x2, e2, h3⟩ := n_lI_x h2
      obtain ⟨x3, e3, h4⟩ := n_lI_x h3
      obtain ⟨x4, e4, h5⟩ := n_lI_x h4
      obtain ⟨x5, e5, h6⟩ := n_lI_x h5
      obtain ⟨x6, e6, h7⟩ := n_lI_x h6
      obtain ⟨rfl, h8⟩ := n_pE_x h7
      exact n_sub (n_qc e0 (n_qc e1 (n_qc e2 (n_qc e3 (n_qc e4 (n_qc e5 (n_qc e6 n_qe))))))) (ih x1 x2 x3 x4 x5 x6 M r h8)) n_ke)) (by rfl) h
def fX12_game_55 (N : Nat) : Nat → Int32 → Int32 → Int32 → nM → Option (Int32 × nM)
  | 0, _, _, _, _ => none
  | n + 1, x1, x2, x3, M =>
    if (M 107 72) ≤ x3 then
      some ((-1 : Int32), M)
    else
      n_chk (n_ib 5 x3) <|
      let v1 : Int32 := (M 149 x3.toNatClampNeg)
      n_chk (n_ib 31 v1) <|
      let v2 : Int32 := (x2 ^^^ (M 150 v1.toNatClampNeg))
      fX12_game_85 N (fun x1 x2 x3 M => fX12_game_55 N n x1 x2 x3 M) N x1 x2 x3 v1 v2 (1 : Int32) M
set_option maxRecDepth 200000 in
theorem bX12_game_55 {l : Launch} {w : nW} (N : Nat) {G : nG} (hG : n_GOK G) : ∀ (n : Nat) (x1 : Int32) (x2 : Int32) (x3 : Int32) (M : nM) (r : Int32 × nM), fX12_game_55 N n x1 x2 x3 M = some r → n_At l w 2 mX12_game 55 [(0, .ref 107), (1, .int x1), (2, .int x2), (3, .int x3)] [] (G, M) (dv_i r.1, (G, r.2)) := by
  intro n
  induction n with
  | zero => intro x1 x2 x3 M r h; cases (show (none : Option (Int32 × nM)) = some r from h)
  | succ n ih =>
    intro x1 x2 x3 M r h
    exact n_seg (fin := n_fin dv_i G) (K := [(85, fun lv st M => n_lC 107 lv 0 (n_lI lv 1 (fun x1 => n_lI lv 2 (fun x2 => n_lI lv 3 (fun x3 => n_lI lv 4 (fun x4 => n_lI lv 5 (fun x5 => n_lI lv 6 (fun x6 => n_pE st (fX12_game_85 N (fun x1 x2 x3 M => fX12_game_55 N n x1 x2 x3 M) N x1 x2 x3 x4 x5 x6 M)))))))))]) 23 (iX12_game N hG) (n_kc (fun lv st M r h => by
      obtain ⟨e0, h1⟩ := n_lC_x h
      obtain ⟨x1, e1, h2⟩ := n_lI_x h1
      obtain ⟨x2, e2, h3⟩ := n_lI_x h2
      obtain ⟨x3, e3, h4⟩ := n_lI_x h3
      obtain ⟨x4, e4, h5⟩ := n_lI_x h4
      obtain ⟨x5, e5, h6⟩ := n_lI_x h5
      obtain ⟨x6, e6, h7⟩ := n_lI_x h6
      obtain ⟨rfl, h8⟩ := n_pE_x h7
      exact n_sub (n_qc e0 (n_qc e1 (n_qc e2 (n_qc e3 (n_qc e4 (n_qc e5 (n_qc e6 n_qe))))))) (bX12_game_85 N hG (fun x1 x2 x3 M => fX12_game_55 N n x1 x2 x3 M) ih N x1 x2 x3 x4 x5 x6 M r h8)) n_ke) (by rfl) h
def fX12_game_25 (N : Nat) : Nat → Int32 → Int32 → Int32 → nM → Option (Int32 × nM)
  | 0, _, _, _, _ => none
  | n + 1, x1, x2, x3, M =>
    if (M 107 72) ≤ x3 then
      fX12_game_55 N N x1 x2 (0 : Int32) M
    else
      n_chk (n_ib 5 x3) <|
      n_chk (n_ib 31 (M 149 x3.toNatClampNeg)) <|
      let v1 : Int32 := (x2 ^^^ (M 150 (M 149 x3.toNatClampNeg).toNatClampNeg))
      let v2 : Int32 := (x3 + (1 : Int32))
      fX12_game_25 N n x1 v1 v2 M
set_option maxRecDepth 200000 in
theorem bX12_game_25 {l : Launch} {w : nW} (N : Nat) {G : nG} (hG : n_GOK G) : ∀ (n : Nat) (x1 : Int32) (x2 : Int32) (x3 : Int32) (M : nM) (r : Int32 × nM), fX12_game_25 N n x1 x2 x3 M = some r → n_At l w 2 mX12_game 25 [(0, .ref 107), (1, .int x1), (2, .int x2), (3, .int x3)] [] (G, M) (dv_i r.1, (G, r.2)) := by
  intro n
  induction n with
  | zero => intro x1 x2 x3 M r h; cases (show (none : Option (Int32 × nM)) = some r from h)
  | succ n ih =>
    intro x1 x2 x3 M r h
    exact n_seg (fin := n_fin dv_i G) (K := [(25, fun lv st M => n_lC 107 lv 0 (n_lI lv 1 (fun x1 => n_lI lv 2 (fun x2 => n_lI lv 3 (fun x3 => n_pE st (fX12_game_25 N n x1 x2 x3 M)))))), (55, fun lv st M => n_lC 107 lv 0 (n_lI lv 1 (fun x1 => n_lI lv 2 (fun x2 => n_lI lv 3 (fun x3 => n_pE st (fX12_game_55 N N x1 x2 x3 M))))))]) 21 (iX12_game N hG) (n_kc (fun lv st M r h => by
      obtain ⟨e0, h1⟩ := n_lC_x h
      obtain ⟨x1, e1, h2⟩ := n_lI_x h1
      obtain ⟨x2, e2, h3⟩ := n_lI_x h2
      obtain ⟨x3, e3, h4⟩ := n_lI_x h3
      obtain ⟨rfl, h5⟩ := n_pE_x h4
      exact n_sub (n_qc e0 (n_qc e1 (n_qc e2 (n_qc e3 n_qe)))) (ih x1 x2 x3 M r h5)) (n_kc (fun lv st M r h => by
      obtain ⟨e0, h1⟩ := n_lC_x h
      obtain ⟨x1, e1, h2⟩ := n_lI_x h1
      obtain ⟨x2, e2, h3⟩ := n_lI_x h2
      obtain ⟨x3, e3, h4⟩ := n_lI_x h3
      obtain ⟨rfl, h5⟩ := n_pE_x h4
      exact n_sub (n_qc e0 (n_qc e1 (n_qc e2 (n_qc e3 n_qe)))) (bX12_game_55 N hG N x1 x2 x3 M r h5)) n_ke)) (by rfl) h
def fX12_game (N : Nat) (x1 : Int32) (M : nM) : Option (Int32 × nM) :=
  let M1 : nM := n_up M 107 0 (0 : Int32)
  (fX12_isIn x1 (0 : Int32) (1 : Int32) M1).bind fun p2 =>
  if ¬ p2.1 = 0 then
    (fX12_findsNimbers N p2.2).bind fun p3 =>
    fX12_game_25 N N x1 (0 : Int32) (0 : Int32) p3.2
  else
    some ((-1 : Int32), p2.2)
set_option maxRecDepth 200000 in
theorem bX12_game_0 {l : Launch} {w : nW} (N : Nat) {G : nG} (hG : n_GOK G) (x1 : Int32) (M : nM) (r : Int32 × nM) (h : fX12_game N x1 M = some r) : n_At l w 2 mX12_game 0 [(0, .ref 107), (1, .int x1)] [] (G, M) (dv_i r.1, (G, r.2)) :=
  n_seg (fin := n_fin dv_i G) (K := [(25, fun lv st M => n_lC 107 lv 0 (n_lI lv 1 (fun x1 => n_lI lv 2 (fun x2 => n_lI lv 3 (fun x3 => n_pE st (fX12_game_25 N N x1 x2 x3 M))))))]) 20 (iX12_game N hG) (n_kc (fun lv st M r h => by
      obtain ⟨e0, h1⟩ := n_lC_x h
      obtain ⟨x1, e1, h2⟩ := n_lI_x h1
      obtain ⟨x2, e2, h3⟩ := n_lI_x h2
      obtain ⟨x3, e3, h4⟩ := n_lI_x h3
      obtain ⟨rfl, h5⟩ := n_pE_x h4
      exact n_sub (n_qc e0 (n_qc e1 (n_qc e2 (n_qc e3 n_qe)))) (bX12_game_25 N hG N x1 x2 x3 M r h5)) n_ke) (by rfl) h
theorem eX12_game {l : Launch} {w : nW} (N : Nat) {G : nG} (hG : n_GOK G) (z1 : Int32) (M : nM) (r : Int32 × nM) (h : fX12_game N z1 M = some r) : n_Met l w 2 mX12_game [.ref 107, .int z1] (G, M) (dv_i r.1, (G, r.2)) :=
  n_entry (by decide +kernel) rfl (Nat.le_of_ble_eq_true rfl) (n_sub (lv := [(0, .ref 107), (1, .int z1)]) (n_qc rfl (n_qc rfl n_qe)) (bX12_game_0 N hG z1 M r h))
abbrev hX12_game (N : Nat) : nF := fun T as M k => n_pC 107 as (fun as => n_pI as (fun z1 as => n_pE as ((fX12_game N z1 M).bind fun p => k (dv_i p.1) p.2)))
theorem csX12_game {l : Launch} {w : nW} (N : Nat) {G : nG} (hG : n_GOK G) : n_CS l w 2 mX12_game G (hX12_game N) := fun T as M k r h => by
  obtain ⟨t0, rfl, h1⟩ := n_pC_x h
  obtain ⟨z1, t1, rfl, h2⟩ := n_pI_x h1
  obtain ⟨rfl, hE⟩ := n_pE_x h2
  obtain ⟨p, hp, hk⟩ := Option.bind_eq_some_iff.mp hE
  exact ⟨_, _, eX12_game N hG z1 M p hp, hk⟩
/-! ===== SleightHouse$Past.goBack(LSleightHouse$Moving;)Z ===== -/
def mX5_goBack : nY := (RX5, yX5_goBack, cX5_goBack, 2, some .boolean)
theorem okX5_goBack : n_MOK mX5_goBack 1 := ⟨w_1374, w_147, ⟨by decide +kernel, by decide +kernel, by decide +kernel⟩, by decide⟩
abbrev aX5_goBack (G : nG) : List (Nat × nO (Int32 × nM)) := [(0, o_aload 0 1), (1, o_gIc 48 2 4), (4, oi_ne 9 7), (7, o_push (.int (0 : Int32)) 8), (8, o_zret), (9, o_aload 0 10), (10, o_aload 0 11), (11, o_gIc 48 1 14), (14, o_push (.int (6 : Int32)) 16), (16, o_iadd 17), (17, o_push (.int (1 : Int32)) 18), (18, o_isub 19), (19, o_push (.int (6 : Int32)) 21), (21, o_irem 22), (22, o_pIc 48 1 25), (25, o_aload 0 26), (26, o_dup 27), (27, o_gIc 48 2 30), (30, o_push (.int (1 : Int32)) 31), (31, o_isub 32), (32, o_pIc 48 2 35), (35, o_aload 1 36), (36, o_aload 0 37), (37, o_gRc 48 49 40), (40, o_aload 0 41), (41, o_gIc 48 1 44), (44, o_aald G 45), (45, o_callVc 9 1 (hX4_copyFrom G) 48), (48, o_push (.int (1 : Int32)) 49), (49, o_zret)]
set_option maxRecDepth 200000 in
theorem iX5_goBack {l : Launch} {w : nW} {G : nG} (hG : n_GOK G) : n_AllS l w 1 mX5_goBack G (n_fin dv_i G) (aX5_goBack G) :=
  n_c (s_aload_n (pc := 0) (k := 0) (by decide +kernel)) <|
  n_c (s_gIc (s_getI (pc := 1) (ci := 5) (k := 2) (idx := 21) nok5 (by decide) rfl (by decide +kernel) w_467) (gk48 hG)) <|
  n_c (s_if_ne (pc := 4) (off := 5) (by decide +kernel) (by decide +kernel)) <|
  n_c (s_iconst (pc := 7) (n := 0) (by decide +kernel) (by decide +kernel)) <|
  n_c (s_zret (pc := 8) rfl (by decide +kernel)) <|
  n_c (s_aload_n (pc := 9) (k := 0) (by decide +kernel)) <|
  n_c (s_aload_n (pc := 10) (k := 0) (by decide +kernel)) <|
  n_c (s_gIc (s_getI (pc := 11) (ci := 5) (k := 1) (idx := 17) nok5 (by decide) rfl (by decide +kernel) w_466) (gk48 hG)) <|
  n_c (s_bipush (pc := 14) (n := 6) (by decide +kernel) (by decide +kernel)) <|
  n_c (s_iadd (pc := 16) (by decide +kernel)) <|
  n_c (s_iconst (pc := 17) (n := 1) (by decide +kernel) (by decide +kernel)) <|
  n_c (s_isub (pc := 18) (by decide +kernel)) <|
  n_c (s_bipush (pc := 19) (n := 6) (by decide +kernel) (by decide +kernel)) <|
  n_c (s_irem (pc := 21) (by decide +kernel)) <|
  n_c (s_pIc (s_putI (pc := 22) (ci := 5) (k := 1) (idx := 17) nok5 (by decide) rfl rfl (by decide +kernel) w_466) (gk48 hG)) <|
  n_c (s_aload_n (pc := 25) (k := 0) (by decide +kernel)) <|
  n_c (s_dup (pc := 26) (by decide +kernel)) <|
  n_c (s_gIc (s_getI (pc := 27) (ci := 5) (k := 2) (idx := 21) nok5 (by decide) rfl (by decide +kernel) w_467) (gk48 hG)) <|
  n_c (s_iconst (pc := 30) (n := 1) (by decide +kernel) (by decide +kernel)) <|
  n_c (s_isub (pc := 31) (by decide +kernel)) <|
  n_c (s_pIc (s_putI (pc := 32) (ci := 5) (k := 2) (idx := 21) nok5 (by decide) rfl rfl (by decide +kernel) w_467) (gk48 hG)) <|
  n_c (s_aload_n (pc := 35) (k := 1) (by decide +kernel)) <|
  n_c (s_aload_n (pc := 36) (k := 0) (by decide +kernel)) <|
  n_c (s_gRc (s_getR (pc := 37) (ci := 5) (k := 0) (idx := 11) nok5 (by decide) rfl (by decide +kernel) w_465) (gk48 hG) (gm48_0 hG)) <|
  n_c (s_aload_n (pc := 40) (k := 0) (by decide +kernel)) <|
  n_c (s_gIc (s_getI (pc := 41) (ci := 5) (k := 1) (idx := 17) nok5 (by decide) rfl (by decide +kernel) w_466) (gk48 hG)) <|
  n_c (s_aaload (pc := 44) (by decide +kernel)) <|
  n_c (s_callVc (s_callV (pc := 45) (csX4_copyFrom) (by decide) okX4_copyFrom nok4 w_693 w_694 w_692 (by decide +kernel)) (gk9 hG)) <|
  n_c (s_iconst (pc := 48) (n := 1) (by decide +kernel) (by decide +kernel)) <|
  n_c (s_zret (pc := 49) rfl (by decide +kernel)) <|
  n_e
def fX5_goBack (G : nG) (M : nM) : Option (Int32 × nM) :=
  if ¬ (M 48 2) = 0 then
    if (6 : Int32) = 0 then none else
    let M1 : nM := n_up M 48 1 ((((M 48 1) + (6 : Int32)) - (1 : Int32)) - (((M 48 1) + (6 : Int32)) - (1 : Int32)) / (6 : Int32) * (6 : Int32))
    let M2 : nM := n_up M1 48 2 ((M1 48 2) - (1 : Int32))
    n_chk (n_in G 15 49 (M2 48 1)) <|
    (fX4_copyFrom G 9 (n_mr G 49 (M2 48 1).toNatClampNeg) M2).bind fun p3 =>
    some ((1 : Int32), p3.2)
  else
    some ((0 : Int32), M)
set_option maxRecDepth 200000 in
theorem bX5_goBack_0 {l : Launch} {w : nW} {G : nG} (hG : n_GOK G) (M : nM) (r : Int32 × nM) (h : fX5_goBack G M = some r) : n_At l w 1 mX5_goBack 0 [(0, .ref 48), (1, .ref 9)] [] (G, M) (dv_i r.1, (G, r.2)) :=
  n_seg (fin := n_fin dv_i G) (K := []) 33 (iX5_goBack hG) n_ke (by rfl) h
theorem eX5_goBack {l : Launch} {w : nW} {G : nG} (hG : n_GOK G) (M : nM) (r : Int32 × nM) (h : fX5_goBack G M = some r) : n_Met l w 1 mX5_goBack [.ref 48, .ref 9] (G, M) (dv_i r.1, (G, r.2)) :=
  n_entry (by decide +kernel) rfl (Nat.le_of_ble_eq_true rfl) (n_sub (lv := [(0, .ref 48), (1, .ref 9)]) (n_qc rfl (n_qc rfl n_qe)) (bX5_goBack_0 hG M r h))
abbrev hX5_goBack (G : nG) : nF := fun T as M k => n_pC 48 as (fun as => n_pC 9 as (fun as => n_pE as ((fX5_goBack G M).bind fun p => k (dv_i p.1) p.2)))
theorem csX5_goBack {l : Launch} {w : nW} {G : nG} (hG : n_GOK G) : n_CS l w 1 mX5_goBack G (hX5_goBack G) := fun T as M k r h => by
  obtain ⟨t0, rfl, h1⟩ := n_pC_x h
  obtain ⟨t1, rfl, h2⟩ := n_pC_x h1
  obtain ⟨rfl, hE⟩ := n_pE_x h2
  obtain ⟨p, hp, hk⟩ := Option.bind_eq_some_iff.mp hE
  exact ⟨_, _, eX5_goBack hG M p hp, hk⟩
/-! ===== SleightHouse.undo()Z ===== -/
def mX11_undo : nY := (RX11, yX11_undo, cX11_undo, 1, some .boolean)
theorem okX11_undo : n_MOK mX11_undo 0 := ⟨w_1370, w_137, ⟨by decide +kernel, by decide +kernel, by decide +kernel⟩, by decide⟩
abbrev aX11_undo (G : nG) : List (Nat × nO (Int32 × nM)) := [(0, o_aload 0 1), (1, o_gRc 1 48 4), (4, o_aload 0 5), (5, o_gRc 1 2 8), (8, o_gRc 2 9 11), (11, o_callVc 48 1 (hX5_goBack G) 14), (14, o_zret)]
set_option maxRecDepth 200000 in
theorem iX11_undo {l : Launch} {w : nW} {G : nG} (hG : n_GOK G) : n_AllS l w 2 mX11_undo G (n_fin dv_i G) (aX11_undo G) :=
  n_c (s_aload_n (pc := 0) (k := 0) (by decide +kernel)) <|
  n_c (s_gRc (s_getR (pc := 1) (ci := 11) (k := 2) (idx := 28) nok11 (by decide) rfl (by decide +kernel) w_574) (gk1 hG) (gm1_2 hG)) <|
  n_c (s_aload_n (pc := 4) (k := 0) (by decide +kernel)) <|
  n_c (s_gRc (s_getR (pc := 5) (ci := 11) (k := 0) (idx := 10) nok11 (by decide) rfl (by decide +kernel) w_572) (gk1 hG) (gm1_0 hG)) <|
  n_c (s_gRc (s_getR (pc := 8) (ci := 1) (k := 1) (idx := 77) nok1 (by decide) rfl (by decide +kernel) w_406) (gk2 hG) (gm2_1 hG)) <|
  n_c (s_callVc (s_callV (pc := 11) (csX5_goBack hG) (by decide) okX5_goBack nok5 w_1372 w_1373 w_1371 (by decide +kernel)) (gk48 hG)) <|
  n_c (s_zret (pc := 14) rfl (by decide +kernel)) <|
  n_e
def fX11_undo (G : nG) (M : nM) : Option (Int32 × nM) :=
  (fX5_goBack G M).bind fun p1 =>
  n_chk (p1.1 == 0 || p1.1 == 1) (some (p1.1, p1.2))
set_option maxRecDepth 200000 in
theorem bX11_undo_0 {l : Launch} {w : nW} {G : nG} (hG : n_GOK G) (M : nM) (r : Int32 × nM) (h : fX11_undo G M = some r) : n_At l w 2 mX11_undo 0 [(0, .ref 1)] [] (G, M) (dv_i r.1, (G, r.2)) :=
  n_seg (fin := n_fin dv_i G) (K := []) 10 (iX11_undo hG) n_ke (by rfl) h
theorem eX11_undo {l : Launch} {w : nW} {G : nG} (hG : n_GOK G) (M : nM) (r : Int32 × nM) (h : fX11_undo G M = some r) : n_Met l w 2 mX11_undo [.ref 1] (G, M) (dv_i r.1, (G, r.2)) :=
  n_entry (by decide +kernel) rfl (Nat.le_of_ble_eq_true rfl) (n_sub (lv := [(0, .ref 1)]) (n_qc rfl n_qe) (bX11_undo_0 hG M r h))
abbrev hX11_undo (G : nG) : nF := fun T as M k => n_pC 1 as (fun as => n_pE as ((fX11_undo G M).bind fun p => k (dv_i p.1) p.2))
theorem csX11_undo {l : Launch} {w : nW} {G : nG} (hG : n_GOK G) : n_CS l w 2 mX11_undo G (hX11_undo G) := fun T as M k r h => by
  obtain ⟨t0, rfl, h1⟩ := n_pC_x h
  obtain ⟨rfl, hE⟩ := n_pE_x h1
  obtain ⟨p, hp, hk⟩ := Option.bind_eq_some_iff.mp hE
  exact ⟨_, _, eX11_undo hG M p hp, hk⟩
/-! ===== SleightHouseModel.undo()Z ===== -/
def mX12_undo : nY := (RX12, yX12_undo, cX12_undo, 2, some .boolean)
theorem okX12_undo : n_MOK mX12_undo 0 := ⟨w_1648, w_151, ⟨by decide +kernel, by decide +kernel, by decide +kernel⟩, by decide⟩
abbrev aX12_undo (N : Nat) : List (Nat × nO (Int32 × nM)) := [(0, o_aload 0 1), (1, o_push (.int (0 : Int32)) 2), (2, o_pIc 107 0 5), (5, o_aload 0 6), (6, o_gIc 107 3 9), (9, oi_ne 14 12), (12, o_push (.int (0 : Int32)) 13), (13, o_zret), (14, o_aload 0 15), (15, o_aload 0 16), (16, o_gIc 107 3 19), (19, o_push (.int (1 : Int32)) 20), (20, o_isub 21), (21, o_pIc 107 3 24), (24, o_push (.int (0 : Int32)) 25), (25, o_istore 2 1 26), (26, o_iload 1 27), (27, o_push (.int (100 : Int32)) 29), (29, oc_ge 58 32), (32, o_aload 0 33), (33, o_gRc 107 108 36), (36, o_iload 1 37), (37, o_aload 0 38), (38, o_gRc 107 109 41), (41, o_push (.int (100 : Int32)) 43), (43, o_aload 0 44), (44, o_gIc 107 3 47), (47, o_imul 48), (48, o_iload 1 49), (49, o_iadd 50), (50, o_aldc 109 600 51), (51, o_iastc 108 100 52), (52, o_inc 2 1 (1 : Int32) 55), (55, o_goto 26), (58, o_push (.int (1 : Int32)) 59), (59, o_zret)]
set_option maxRecDepth 200000 in
theorem iX12_undo {l : Launch} {w : nW} (N : Nat) {G : nG} (hG : n_GOK G) : n_AllS l w 0 mX12_undo G (n_fin dv_i G) (aX12_undo N) :=
  n_c (s_aload_n (pc := 0) (k := 0) (by decide +kernel)) <|
  n_c (s_iconst (pc := 1) (n := 0) (by decide +kernel) (by decide +kernel)) <|
  n_c (s_pIc (s_putI (pc := 2) (ci := 12) (k := 0) (idx := 146) nok12 (by decide) rfl rfl (by decide +kernel) w_1407) (gk107 hG)) <|
  n_c (s_aload_n (pc := 5) (k := 0) (by decide +kernel)) <|
  n_c (s_gIc (s_getI (pc := 6) (ci := 12) (k := 3) (idx := 149) nok12 (by decide) rfl (by decide +kernel) w_1410) (gk107 hG)) <|
  n_c (s_if_ne (pc := 9) (off := 5) (by decide +kernel) (by decide +kernel)) <|
  n_c (s_iconst (pc := 12) (n := 0) (by decide +kernel) (by decide +kernel)) <|
  n_c (s_zret (pc := 13) rfl (by decide +kernel)) <|
  n_c (s_aload_n (pc := 14) (k := 0) (by decide +kernel)) <|
  n_c (s_aload_n (pc := 15) (k := 0) (by decide +kernel)) <|
  n_c (s_gIc (s_getI (pc := 16) (ci := 12) (k := 3) (idx := 149) nok12 (by decide) rfl (by decide +kernel) w_1410) (gk107 hG)) <|
  n_c (s_iconst (pc := 19) (n := 1) (by decide +kernel) (by decide +kernel)) <|
  n_c (s_isub (pc := 20) (by decide +kernel)) <|
  n_c (s_pIc (s_putI (pc := 21) (ci := 12) (k := 3) (idx := 149) nok12 (by decide) rfl rfl (by decide +kernel) w_1410) (gk107 hG)) <|
  n_c (s_iconst (pc := 24) (n := 0) (by decide +kernel) (by decide +kernel)) <|
  n_c (s_istore_n (pc := 25) (k := 1) (by decide +kernel)) <|
  n_c (s_iload_n (pc := 26) (k := 1) (by decide +kernel)) <|
  n_c (s_bipush (pc := 27) (n := 100) (by decide +kernel) (by decide +kernel)) <|
  n_c (s_icmp_ge (pc := 29) (off := 29) (by decide +kernel) (by decide +kernel)) <|
  n_c (s_aload_n (pc := 32) (k := 0) (by decide +kernel)) <|
  n_c (s_gRc (s_getR (pc := 33) (ci := 12) (k := 1) (idx := 7) nok12 (by decide) rfl (by decide +kernel) w_1408) (gk107 hG) (gm107_1 hG)) <|
  n_c (s_iload_n (pc := 36) (k := 1) (by decide +kernel)) <|
  n_c (s_aload_n (pc := 37) (k := 0) (by decide +kernel)) <|
  n_c (s_gRc (s_getR (pc := 38) (ci := 12) (k := 2) (idx := 13) nok12 (by decide) rfl (by decide +kernel) w_1409) (gk107 hG) (gm107_2 hG)) <|
  n_c (s_bipush (pc := 41) (n := 100) (by decide +kernel) (by decide +kernel)) <|
  n_c (s_aload_n (pc := 43) (k := 0) (by decide +kernel)) <|
  n_c (s_gIc (s_getI (pc := 44) (ci := 12) (k := 3) (idx := 149) nok12 (by decide) rfl (by decide +kernel) w_1410) (gk107 hG)) <|
  n_c (s_imul (pc := 47) (by decide +kernel)) <|
  n_c (s_iload_n (pc := 48) (k := 1) (by decide +kernel)) <|
  n_c (s_iadd (pc := 49) (by decide +kernel)) <|
  n_c (s_aldc (s_iaload (pc := 50) (by decide +kernel)) (gk109 hG) (gl109 hG)) <|
  n_c (s_iastc (s_iastore (pc := 51) (by decide +kernel)) (gk108 hG) (gl108 hG)) <|
  n_c (s_iinc (pc := 52) (n := 1) (by decide +kernel) (by decide +kernel)) <|
  n_c (s_goto (pc := 55) (off := -29) (by decide +kernel) (by decide +kernel)) <|
  n_c (s_iconst (pc := 58) (n := 1) (by decide +kernel) (by decide +kernel)) <|
  n_c (s_zret (pc := 59) rfl (by decide +kernel)) <|
  n_e
def fX12_undo_26 (N : Nat) : Nat → Int32 → nM → Option (Int32 × nM)
  | 0, _, _ => none
  | n + 1, x1, M =>
    if (100 : Int32) ≤ x1 then
      some ((1 : Int32), M)
    else
      n_chk (n_ib 600 (((100 : Int32) * (M 107 3)) + x1)) <|
      n_chk (n_ib 100 x1) <|
      let M1 : nM := n_up M 108 x1.toNatClampNeg (M 109 (((100 : Int32) * (M 107 3)) + x1).toNatClampNeg)
      let v2 : Int32 := (x1 + (1 : Int32))
      fX12_undo_26 N n v2 M1
set_option maxRecDepth 200000 in
theorem bX12_undo_26 {l : Launch} {w : nW} (N : Nat) {G : nG} (hG : n_GOK G) : ∀ (n : Nat) (x1 : Int32) (M : nM) (r : Int32 × nM), fX12_undo_26 N n x1 M = some r → n_At l w 0 mX12_undo 26 [(0, .ref 107), (1, .int x1)] [] (G, M) (dv_i r.1, (G, r.2)) := by
  intro n
  induction n with
  | zero => intro x1 M r h; cases (show (none : Option (Int32 × nM)) = some r from h)
  | succ n ih =>
    intro x1 M r h
    exact n_seg (fin := n_fin dv_i G) (K := [(26, fun lv st M => n_lC 107 lv 0 (n_lI lv 1 (fun x1 => n_pE st (fX12_undo_26 N n x1 M))))]) 23 (iX12_undo N hG) (n_kc (fun lv st M r h => by
      obtain ⟨e0, h1⟩ := n_lC_x h
      obtain ⟨x1, e1, h2⟩ := n_lI_x h1
      obtain ⟨rfl, h3⟩ := n_pE_x h2
      exact n_sub (n_qc e0 (n_qc e1 n_qe)) (ih x1 M r h3)) n_ke) (by rfl) h
def fX12_undo (N : Nat) (M : nM) : Option (Int32 × nM) :=
  let M1 : nM := n_up M 107 0 (0 : Int32)
  if ¬ (M1 107 3) = 0 then
    let M2 : nM := n_up M1 107 3 ((M1 107 3) - (1 : Int32))
    fX12_undo_26 N N (0 : Int32) M2
  else
    some ((0 : Int32), M1)
set_option maxRecDepth 200000 in
theorem bX12_undo_0 {l : Launch} {w : nW} (N : Nat) {G : nG} (hG : n_GOK G) (M : nM) (r : Int32 × nM) (h : fX12_undo N M = some r) : n_At l w 0 mX12_undo 0 [(0, .ref 107)] [] (G, M) (dv_i r.1, (G, r.2)) :=
  n_seg (fin := n_fin dv_i G) (K := [(26, fun lv st M => n_lC 107 lv 0 (n_lI lv 1 (fun x1 => n_pE st (fX12_undo_26 N N x1 M))))]) 19 (iX12_undo N hG) (n_kc (fun lv st M r h => by
      obtain ⟨e0, h1⟩ := n_lC_x h
      obtain ⟨x1, e1, h2⟩ := n_lI_x h1
      obtain ⟨rfl, h3⟩ := n_pE_x h2
      exact n_sub (n_qc e0 (n_qc e1 n_qe)) (bX12_undo_26 N hG N x1 M r h3)) n_ke) (by rfl) h
theorem eX12_undo {l : Launch} {w : nW} (N : Nat) {G : nG} (hG : n_GOK G) (M : nM) (r : Int32 × nM) (h : fX12_undo N M = some r) : n_Met l w 0 mX12_undo [.ref 107] (G, M) (dv_i r.1, (G, r.2)) :=
  n_entry (by decide +kernel) rfl (Nat.le_of_ble_eq_true rfl) (n_sub (lv := [(0, .ref 107)]) (n_qc rfl n_qe) (bX12_undo_0 N hG M r h))
abbrev hX12_undo (N : Nat) : nF := fun T as M k => n_pC 107 as (fun as => n_pE as ((fX12_undo N M).bind fun p => k (dv_i p.1) p.2))
theorem csX12_undo {l : Launch} {w : nW} (N : Nat) {G : nG} (hG : n_GOK G) : n_CS l w 0 mX12_undo G (hX12_undo N) := fun T as M k r h => by
  obtain ⟨t0, rfl, h1⟩ := n_pC_x h
  obtain ⟨rfl, hE⟩ := n_pE_x h1
  obtain ⟨p, hp, hk⟩ := Option.bind_eq_some_iff.mp hE
  exact ⟨_, _, eX12_undo N hG M p hp, hk⟩
