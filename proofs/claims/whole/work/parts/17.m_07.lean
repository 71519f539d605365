/-! ===== SleightHouseModel.readDeed(I)I ===== -/
def mX12_readDeed : nY := (RX12, yX12_readDeed, cX12_readDeed, 3, some .int)
theorem okX12_readDeed : n_MOK mX12_readDeed 1 := ⟨w_1768, w_151, ⟨by decide +kernel, by decide +kernel, by decide +kernel⟩, by decide⟩
abbrev aX12_readDeed (N : Nat) : List (Nat × nO (Int32 × nM)) := [(0, o_aload 0 1), (1, o_gRc 107 128 4), (4, o_iload 1 5), (5, o_aload 0 6), (6, o_push (.int (18 : Int32)) 8), (8, o_push (.int (0 : Int32)) 9), (9, o_push (.int (999 : Int32)) 12), (12, o_callVc 107 3 (hX12_readTold N) 15), (15, o_iastc 128 128 16), (16, o_aload 0 17), (17, o_gRc 107 128 20), (20, o_iload 1 21), (21, o_aldc 128 128 22), (22, o_push (.int (-1 : Int32)) 23), (23, oc_ne 28 26), (26, o_push (.int (-1 : Int32)) 27), (27, o_iret), (28, o_aload 0 29), (29, o_callVc 107 0 (hX12_kindOfDeed) 32), (32, o_istore 3 2 33), (33, o_iload 2 34), (34, o_push (.int (-1 : Int32)) 35), (35, oc_ne 44 38), (38, o_aload 0 39), (39, o_push (.int (1 : Int32)) 40), (40, o_callVc 107 1 (hX12_errs) 43), (43, o_iret), (44, o_aload 0 45), (45, o_callVc 107 0 (hX12_reads N) 48), (48, o_aload 0 49), (49, o_gRc 107 128 52), (52, o_iload 1 53), (53, o_push (.int (1 : Int32)) 54), (54, o_iadd 55), (55, o_iload 2 56), (56, o_iastc 128 128 57), (57, o_aload 0 58), (58, o_gRc 107 128 61), (61, o_iload 1 62), (62, o_push (.int (2 : Int32)) 63), (63, o_iadd 64), (64, o_aload 0 65), (65, o_push (.int (0 : Int32)) 66), (66, o_iload 2 67), (67, o_push (.int (2 : Int32)) 68), (68, oc_eq 76 71), (71, o_iload 2 72), (72, o_push (.int (3 : Int32)) 73), (73, oc_ne 81 76), (76, o_push (.int (11 : Int32)) 78), (78, o_goto 87), (81, o_aload 0 82), (82, o_gIc 107 7 85), (85, o_push (.int (1 : Int32)) 86), (86, o_isub 87), (87, o_callVc 107 2 (hX12_readNumber N) 90), (90, o_iastc 128 128 91), (91, o_aload 0 92), (92, o_gRc 107 128 95), (95, o_iload 1 96), (96, o_push (.int (2 : Int32)) 97), (97, o_iadd 98), (98, o_aldc 128 128 99), (99, o_push (.int (-1 : Int32)) 100), (100, oc_ne 105 103), (103, o_push (.int (-1 : Int32)) 104), (104, o_iret), (105, o_aload 0 106), (106, o_gRc 107 128 109), (109, o_iload 1 110), (110, o_push (.int (3 : Int32)) 111), (111, o_iadd 112), (112, o_iload 2 113), (113, o_push (.int (4 : Int32)) 114), (114, oc_ne 127 117), (117, o_aload 0 118), (118, o_push (.int (0 : Int32)) 119), (119, o_push (.int (11 : Int32)) 121), (121, o_callVc 107 2 (hX12_readNumber N) 124), (124, o_goto 128), (127, o_push (.int (0 : Int32)) 128), (128, o_iastc 128 128 129), (129, o_aload 0 130), (130, o_gRc 107 128 133), (133, o_iload 1 134), (134, o_push (.int (3 : Int32)) 135), (135, o_iadd 136), (136, o_aldc 128 128 137), (137, o_push (.int (-1 : Int32)) 138), (138, oc_ne 145 141), (141, o_push (.int (-1 : Int32)) 142), (142, o_goto 151), (145, o_aload 0 146), (146, o_push (.int (59 : Int32)) 148), (148, o_callVc 107 1 (hX12_readMark N) 151), (151, o_iret)]
set_option maxRecDepth 200000 in
theorem iX12_readDeed {l : Launch} {w : nW} (N : Nat) {G : nG} (hG : n_GOK G) : n_AllS l w 5 mX12_readDeed G (n_fin dv_i G) (aX12_readDeed N) :=
  n_c (s_aload_n (pc := 0) (k := 0) (by decide +kernel)) <|
  n_c (s_gRc (s_getR (pc := 1) (ci := 12) (k := 40) (idx := 74) nok12 (by decide) rfl (by decide +kernel) w_1447) (gk107 hG) (gm107_40 hG)) <|
  n_c (s_iload_n (pc := 4) (k := 1) (by decide +kernel)) <|
  n_c (s_aload_n (pc := 5) (k := 0) (by decide +kernel)) <|
  n_c (s_bipush (pc := 6) (n := 18) (by decide +kernel) (by decide +kernel)) <|
  n_c (s_iconst (pc := 8) (n := 0) (by decide +kernel) (by decide +kernel)) <|
  n_c (s_sipush (pc := 9) (n := 999) (by decide +kernel) (by decide +kernel)) <|
  n_c (s_callVc (s_callV (pc := 12) (csX12_readTold N hG) (by decide) okX12_readTold nok12 w_1747 w_63 w_1745 (by decide +kernel)) (gk107 hG)) <|
  n_c (s_iastc (s_iastore (pc := 15) (by decide +kernel)) (gk128 hG) (gl128 hG)) <|
  n_c (s_aload_n (pc := 16) (k := 0) (by decide +kernel)) <|
  n_c (s_gRc (s_getR (pc := 17) (ci := 12) (k := 40) (idx := 74) nok12 (by decide) rfl (by decide +kernel) w_1447) (gk107 hG) (gm107_40 hG)) <|
  n_c (s_iload_n (pc := 20) (k := 1) (by decide +kernel)) <|
  n_c (s_aldc (s_iaload (pc := 21) (by decide +kernel)) (gk128 hG) (gl128 hG)) <|
  n_c (s_iconst (pc := 22) (n := -1) (by decide +kernel) (by decide +kernel)) <|
  n_c (s_icmp_ne (pc := 23) (off := 5) (by decide +kernel) (by decide +kernel)) <|
  n_c (s_iconst (pc := 26) (n := -1) (by decide +kernel) (by decide +kernel)) <|
  n_c (s_iret (pc := 27) rfl (by decide +kernel)) <|
  n_c (s_aload_n (pc := 28) (k := 0) (by decide +kernel)) <|
  n_c (s_callVc (s_callV (pc := 29) (csX12_kindOfDeed hG) (by decide) okX12_kindOfDeed nok12 w_1771 w_69 w_1769 (by decide +kernel)) (gk107 hG)) <|
  n_c (s_istore_n (pc := 32) (k := 2) (by decide +kernel)) <|
  n_c (s_iload_n (pc := 33) (k := 2) (by decide +kernel)) <|
  n_c (s_iconst (pc := 34) (n := -1) (by decide +kernel) (by decide +kernel)) <|
  n_c (s_icmp_ne (pc := 35) (off := 9) (by decide +kernel) (by decide +kernel)) <|
  n_c (s_aload_n (pc := 38) (k := 0) (by decide +kernel)) <|
  n_c (s_iconst (pc := 39) (n := 1) (by decide +kernel) (by decide +kernel)) <|
  n_c (s_callVc (s_callV (pc := 40) (csX12_errs hG) (by decide) okX12_errs nok12 w_1739 w_61 w_1737 (by decide +kernel)) (gk107 hG)) <|
  n_c (s_iret (pc := 43) rfl (by decide +kernel)) <|
  n_c (s_aload_n (pc := 44) (k := 0) (by decide +kernel)) <|
  n_c (s_callVc (s_callV (pc := 45) (csX12_reads N hG) (by decide) okX12_reads nok12 w_1707 w_53 w_1705 (by decide +kernel)) (gk107 hG)) <|
  n_c (s_aload_n (pc := 48) (k := 0) (by decide +kernel)) <|
  n_c (s_gRc (s_getR (pc := 49) (ci := 12) (k := 40) (idx := 74) nok12 (by decide) rfl (by decide +kernel) w_1447) (gk107 hG) (gm107_40 hG)) <|
  n_c (s_iload_n (pc := 52) (k := 1) (by decide +kernel)) <|
  n_c (s_iconst (pc := 53) (n := 1) (by decide +kernel) (by decide +kernel)) <|
  n_c (s_iadd (pc := 54) (by decide +kernel)) <|
  n_c (s_iload_n (pc := 55) (k := 2) (by decide +kernel)) <|
  n_c (s_iastc (s_iastore (pc := 56) (by decide +kernel)) (gk128 hG) (gl128 hG)) <|
  n_c (s_aload_n (pc := 57) (k := 0) (by decide +kernel)) <|
  n_c (s_gRc (s_getR (pc := 58) (ci := 12) (k := 40) (idx := 74) nok12 (by decide) rfl (by decide +kernel) w_1447) (gk107 hG) (gm107_40 hG)) <|
  n_c (s_iload_n (pc := 61) (k := 1) (by decide +kernel)) <|
  n_c (s_iconst (pc := 62) (n := 2) (by decide +kernel) (by decide +kernel)) <|
  n_c (s_iadd (pc := 63) (by decide +kernel)) <|
  n_c (s_aload_n (pc := 64) (k := 0) (by decide +kernel)) <|
  n_c (s_iconst (pc := 65) (n := 0) (by decide +kernel) (by decide +kernel)) <|
  n_c (s_iload_n (pc := 66) (k := 2) (by decide +kernel)) <|
  n_c (s_iconst (pc := 67) (n := 2) (by decide +kernel) (by decide +kernel)) <|
  n_c (s_icmp_eq (pc := 68) (off := 8) (by decide +kernel) (by decide +kernel)) <|
  n_c (s_iload_n (pc := 71) (k := 2) (by decide +kernel)) <|
  n_c (s_iconst (pc := 72) (n := 3) (by decide +kernel) (by decide +kernel)) <|
  n_c (s_icmp_ne (pc := 73) (off := 8) (by decide +kernel) (by decide +kernel)) <|
  n_c (s_bipush (pc := 76) (n := 11) (by decide +kernel) (by decide +kernel)) <|
  n_c (s_goto (pc := 78) (off := 9) (by decide +kernel) (by decide +kernel)) <|
  n_c (s_aload_n (pc := 81) (k := 0) (by decide +kernel)) <|
  n_c (s_gIc (s_getI (pc := 82) (ci := 12) (k := 7) (idx := 161) nok12 (by decide) rfl (by decide +kernel) w_1414) (gk107 hG)) <|
  n_c (s_iconst (pc := 85) (n := 1) (by decide +kernel) (by decide +kernel)) <|
  n_c (s_isub (pc := 86) (by decide +kernel)) <|
  n_c (s_callVc (s_callV (pc := 87) (csX12_readNumber N hG) (by decide) okX12_readNumber nok12 w_1751 w_64 w_1749 (by decide +kernel)) (gk107 hG)) <|
  n_c (s_iastc (s_iastore (pc := 90) (by decide +kernel)) (gk128 hG) (gl128 hG)) <|
  n_c (s_aload_n (pc := 91) (k := 0) (by decide +kernel)) <|
  n_c (s_gRc (s_getR (pc := 92) (ci := 12) (k := 40) (idx := 74) nok12 (by decide) rfl (by decide +kernel) w_1447) (gk107 hG) (gm107_40 hG)) <|
  n_c (s_iload_n (pc := 95) (k := 1) (by decide +kernel)) <|
  n_c (s_iconst (pc := 96) (n := 2) (by decide +kernel) (by decide +kernel)) <|
  n_c (s_iadd (pc := 97) (by decide +kernel)) <|
  n_c (s_aldc (s_iaload (pc := 98) (by decide +kernel)) (gk128 hG) (gl128 hG)) <|
  n_c (s_iconst (pc := 99) (n := -1) (by decide +kernel) (by decide +kernel)) <|
  n_c (s_icmp_ne (pc := 100) (off := 5) (by decide +kernel) (by decide +kernel)) <|
  n_c (s_iconst (pc := 103) (n := -1) (by decide +kernel) (by decide +kernel)) <|
  n_c (s_iret (pc := 104) rfl (by decide +kernel)) <|
  n_c (s_aload_n (pc := 105) (k := 0) (by decide +kernel)) <|
  n_c (s_gRc (s_getR (pc := 106) (ci := 12) (k := 40) (idx := 74) nok12 (by decide) rfl (by decide +kernel) w_1447) (gk107 hG) (gm107_40 hG)) <|
  n_c (s_iload_n (pc := 109) (k := 1) (by decide +kernel)) <|
  n_c (s_iconst (pc := 110) (n := 3) (by decide +kernel) (by decide +kernel)) <|
  n_c (s_iadd (pc := 111) (by decide +kernel)) <|
  n_c (s_iload_n (pc := 112) (k := 2) (by decide +kernel)) <|
  n_c (s_iconst (pc := 113) (n := 4) (by decide +kernel) (by decide +kernel)) <|
  n_c (s_icmp_ne (pc := 114) (off := 13) (by decide +kernel) (by decide +kernel)) <|
  n_c (s_aload_n (pc := 117) (k := 0) (by decide +kernel)) <|
  n_c (s_iconst (pc := 118) (n := 0) (by decide +kernel) (by decide +kernel)) <|
  n_c (s_bipush (pc := 119) (n := 11) (by decide +kernel) (by decide +kernel)) <|
  n_c (s_callVc (s_callV (pc := 121) (csX12_readNumber N hG) (by decide) okX12_readNumber nok12 w_1751 w_64 w_1749 (by decide +kernel)) (gk107 hG)) <|
  n_c (s_goto (pc := 124) (off := 4) (by decide +kernel) (by decide +kernel)) <|
  n_c (s_iconst (pc := 127) (n := 0) (by decide +kernel) (by decide +kernel)) <|
  n_c (s_iastc (s_iastore (pc := 128) (by decide +kernel)) (gk128 hG) (gl128 hG)) <|
  n_c (s_aload_n (pc := 129) (k := 0) (by decide +kernel)) <|
  n_c (s_gRc (s_getR (pc := 130) (ci := 12) (k := 40) (idx := 74) nok12 (by decide) rfl (by decide +kernel) w_1447) (gk107 hG) (gm107_40 hG)) <|
  n_c (s_iload_n (pc := 133) (k := 1) (by decide +kernel)) <|
  n_c (s_iconst (pc := 134) (n := 3) (by decide +kernel) (by decide +kernel)) <|
  n_c (s_iadd (pc := 135) (by decide +kernel)) <|
  n_c (s_aldc (s_iaload (pc := 136) (by decide +kernel)) (gk128 hG) (gl128 hG)) <|
  n_c (s_iconst (pc := 137) (n := -1) (by decide +kernel) (by decide +kernel)) <|
  n_c (s_icmp_ne (pc := 138) (off := 7) (by decide +kernel) (by decide +kernel)) <|
  n_c (s_iconst (pc := 141) (n := -1) (by decide +kernel) (by decide +kernel)) <|
  n_c (s_goto (pc := 142) (off := 9) (by decide +kernel) (by decide +kernel)) <|
  n_c (s_aload_n (pc := 145) (k := 0) (by decide +kernel)) <|
  n_c (s_bipush (pc := 146) (n := 59) (by decide +kernel) (by decide +kernel)) <|
  n_c (s_callVc (s_callV (pc := 148) (csX12_readMark N hG) (by decide) okX12_readMark nok12 w_1755 w_65 w_1753 (by decide +kernel)) (gk107 hG)) <|
  n_c (s_iret (pc := 151) rfl (by decide +kernel)) <|
  n_e
def fX12_readDeed_128 (N : Nat) (x1 : Int32) (s0 : Int32) (s1 : Int32) (M : nM) : Option (Int32 × nM) :=
  n_chk (n_ib 128 s1) <|
  let M1 : nM := n_up M 128 s1.toNatClampNeg s0
  n_chk (n_ib 128 (x1 + (3 : Int32))) <|
  if ¬ (M1 128 (x1 + (3 : Int32)).toNatClampNeg) = (-1 : Int32) then
    (fX12_readMark N (59 : Int32) M1).bind fun p2 =>
    some (p2.1, p2.2)
  else
    some ((-1 : Int32), M1)
set_option maxRecDepth 200000 in
theorem bX12_readDeed_128 {l : Launch} {w : nW} (N : Nat) {G : nG} (hG : n_GOK G) (x1 : Int32) (s0 : Int32) (s1 : Int32) (M : nM) (r : Int32 × nM) (h : fX12_readDeed_128 N x1 s0 s1 M = some r) : n_At l w 5 mX12_readDeed 128 [(0, .ref 107), (1, .int x1)] [.int s0, .int s1, .ref 128] (G, M) (dv_i r.1, (G, r.2)) :=
  n_seg (fin := n_fin dv_i G) (K := []) 19 (iX12_readDeed N hG) n_ke (by rfl) h
def fX12_readDeed_87 (N : Nat) (x1 : Int32) (x2 : Int32) (s0 : Int32) (s1 : Int32) (s3 : Int32) (M : nM) : Option (Int32 × nM) :=
  (fX12_readNumber N s1 s0 M).bind fun p1 =>
  n_chk (n_ib 128 s3) <|
  let M2 : nM := n_up p1.2 128 s3.toNatClampNeg p1.1
  n_chk (n_ib 128 (x1 + (2 : Int32))) <|
  if ¬ (M2 128 (x1 + (2 : Int32)).toNatClampNeg) = (-1 : Int32) then
    if ¬ x2 = (4 : Int32) then
      fX12_readDeed_128 N x1 (0 : Int32) (x1 + (3 : Int32)) M2
    else
      (fX12_readNumber N (0 : Int32) (11 : Int32) M2).bind fun p3 =>
      fX12_readDeed_128 N x1 p3.1 (x1 + (3 : Int32)) p3.2
  else
    some ((-1 : Int32), M2)
set_option maxRecDepth 200000 in
theorem bX12_readDeed_87 {l : Launch} {w : nW} (N : Nat) {G : nG} (hG : n_GOK G) (x1 : Int32) (x2 : Int32) (s0 : Int32) (s1 : Int32) (s3 : Int32) (M : nM) (r : Int32 × nM) (h : fX12_readDeed_87 N x1 x2 s0 s1 s3 M = some r) : n_At l w 5 mX12_readDeed 87 [(0, .ref 107), (1, .int x1), (2, .int x2)] [.int s0, .int s1, .ref 107, .int s3, .ref 128] (G, M) (dv_i r.1, (G, r.2)) :=
  n_seg (fin := n_fin dv_i G) (K := [(128, fun lv st M => n_lC 107 lv 0 (n_lI lv 1 (fun x1 => n_pI st (fun s0 st => n_pI st (fun s1 st => n_pC 128 st (fun st => n_pE st (fX12_readDeed_128 N x1 s0 s1 M)))))))]) 29 (iX12_readDeed N hG) (n_kc (fun lv st M r h => by
      obtain ⟨e0, h1⟩ := n_lC_x h
      obtain ⟨x1, e1, h2⟩ := n_lI_x h1
      obtain ⟨s0, t0, rfl, h3⟩ := n_pI_x h2
      obtain ⟨s1, t1, rfl, h4⟩ := n_pI_x h3
      obtain ⟨t2, rfl, h5⟩ := n_pC_x h4
      obtain ⟨rfl, h6⟩ := n_pE_x h5
      exact n_sub (n_qc e0 (n_qc e1 n_qe)) (bX12_readDeed_128 N hG x1 s0 s1 M r h6)) n_ke) (by rfl) h
def fX12_readDeed_76 (N : Nat) (x1 : Int32) (x2 : Int32) (s0 : Int32) (s2 : Int32) (M : nM) : Option (Int32 × nM) :=
  fX12_readDeed_87 N x1 x2 (11 : Int32) s0 s2 M
set_option maxRecDepth 200000 in
theorem bX12_readDeed_76 {l : Launch} {w : nW} (N : Nat) {G : nG} (hG : n_GOK G) (x1 : Int32) (x2 : Int32) (s0 : Int32) (s2 : Int32) (M : nM) (r : Int32 × nM) (h : fX12_readDeed_76 N x1 x2 s0 s2 M = some r) : n_At l w 5 mX12_readDeed 76 [(0, .ref 107), (1, .int x1), (2, .int x2)] [.int s0, .ref 107, .int s2, .ref 128] (G, M) (dv_i r.1, (G, r.2)) :=
  n_seg (fin := n_fin dv_i G) (K := [(87, fun lv st M => n_lC 107 lv 0 (n_lI lv 1 (fun x1 => n_lI lv 2 (fun x2 => n_pI st (fun s0 st => n_pI st (fun s1 st => n_pC 107 st (fun st => n_pI st (fun s3 st => n_pC 128 st (fun st => n_pE st (fX12_readDeed_87 N x1 x2 s0 s1 s3 M))))))))))]) 5 (iX12_readDeed N hG) (n_kc (fun lv st M r h => by
      obtain ⟨e0, h1⟩ := n_lC_x h
      obtain ⟨x1, e1, h2⟩ := n_lI_x h1
      obtain ⟨x2, e2, h3⟩ := n_lI_x h2
      obtain ⟨s0, t0, rfl, h4⟩ := n_pI_x h3
      obtain ⟨s1, t1, rfl, h5⟩ := n_pI_x h4
      obtain ⟨t2, rfl, h6⟩ := n_pC_x h5
      obtain ⟨s3, t3, rfl, h7⟩ := n_pI_x h6
      obtain ⟨t4, rfl, h8⟩ := n_pC_x h7
      obtain ⟨rfl, h9⟩ := n_pE_x h8
      exact n_sub (n_qc e0 (n_qc e1 (n_qc e2 n_qe))) (bX12_readDeed_87 N hG x1 x2 s0 s1 s3 M r h9)) n_ke) (by rfl) h
def fX12_readDeed (N : Nat) (x1 : Int32) (M : nM) : Option (Int32 × nM) :=
  (fX12_readTold N (18 : Int32) (0 : Int32) (999 : Int32) M).bind fun p1 =>
  n_chk (n_ib 128 x1) <|
  let M2 : nM := n_up p1.2 128 x1.toNatClampNeg p1.1
  n_chk (n_ib 128 x1) <|
  if ¬ (M2 128 x1.toNatClampNeg) = (-1 : Int32) then
    (fX12_kindOfDeed M2).bind fun p3 =>
    if ¬ p3.1 = (-1 : Int32) then
      (fX12_reads_all N p3.2).bind fun p4 =>
      n_chk (n_ib 128 (x1 + (1 : Int32))) <|
      let M5 : nM := n_up p4.2 128 (x1 + (1 : Int32)).toNatClampNeg p3.1
      if p3.1 = (2 : Int32) then
        fX12_readDeed_76 N x1 p3.1 (0 : Int32) (x1 + (2 : Int32)) M5
      else
        if ¬ p3.1 = (3 : Int32) then
          fX12_readDeed_87 N x1 p3.1 ((M5 107 7) - (1 : Int32)) (0 : Int32) (x1 + (2 : Int32)) M5
        else
          fX12_readDeed_76 N x1 p3.1 (0 : Int32) (x1 + (2 : Int32)) M5
    else
      (fX12_errs (1 : Int32) p3.2).bind fun p6 =>
      some (p6.1, p6.2)
  else
    some ((-1 : Int32), M2)
set_option maxRecDepth 200000 in
theorem bX12_readDeed_0 {l : Launch} {w : nW} (N : Nat) {G : nG} (hG : n_GOK G) (x1 : Int32) (M : nM) (r : Int32 × nM) (h : fX12_readDeed N x1 M = some r) : n_At l w 5 mX12_readDeed 0 [(0, .ref 107), (1, .int x1)] [] (G, M) (dv_i r.1, (G, r.2)) :=
  n_seg (fin := n_fin dv_i G) (K := [(76, fun lv st M => n_lC 107 lv 0 (n_lI lv 1 (fun x1 => n_lI lv 2 (fun x2 => n_pI st (fun s0 st => n_pC 107 st (fun st => n_pI st (fun s2 st => n_pC 128 st (fun st => n_pE st (fX12_readDeed_76 N x1 x2 s0 s2 M))))))))), (87, fun lv st M => n_lC 107 lv 0 (n_lI lv 1 (fun x1 => n_lI lv 2 (fun x2 => n_pI st (fun s0 st => n_pI st (fun s1 st => n_pC 107 st (fun st => n_pI st (fun s3 st => n_pC 128 st (fun st => n_pE st (fX12_readDeed_87 N x1 x2 s0 s1 s3 M))))))))))]) 56 (iX12_readDeed N hG) (n_kc (fun lv st M r h => by
      obtain ⟨e0, h1⟩ := n_lC_x h
      obtain ⟨x1, e1, h2⟩ := n_lI_x h1
      obtain ⟨x2, e2, h3⟩ := n_lI_x h2
      obtain ⟨s0, t0, rfl, h4⟩ := n_pI_x h3
      obtain ⟨t1, rfl, h5⟩ := n_pC_x h4
      obtain ⟨s2, t2, rfl, h6⟩ := n_pI_x h5
      obtain ⟨t3, rfl, h7⟩ := n_pC_x h6
      obtain ⟨rfl, h8⟩ := n_pE_x h7
      exact n_sub (n_qc e0 (n_qc e1 (n_qc e2 n_qe))) (bX12_readDeed_76 N hG x1 x2 s0 s2 M r h8)) (n_kc (fun lv st M r h => by
      obtain ⟨e0, h1⟩ := n_lC_x h
      obtain ⟨x1, e1, h2⟩ := n_lI_x h1
      obtain ⟨x2, e2, h3⟩ := n_lI_x h2
      obtain ⟨s0, t0, rfl, h4⟩ := n_pI_x h3
      obtain ⟨s1, t1, rfl, h5⟩ := n_pI_x h4
      obtain ⟨t2, rfl, h6⟩ := n_pC_x h5
      obtain ⟨s3, t3, rfl, h7⟩ := n_pI_x h6
      obtain ⟨t4, rfl, h8⟩ := n_pC_x h7
      obtain ⟨rfl, h9⟩ := n_pE_x h8
      exact n_sub (n_qc e0 (n_qc e1 (n_qc e2 n_qe))) (bX12_readDeed_87 N hG x1 x2 s0 s1 s3 M r h9)) n_ke)) (by rfl) h
theorem eX12_readDeed {l : Launch} {w : nW} (N : Nat) {G : nG} (hG : n_GOK G) (z1 : Int32) (M : nM) (r : Int32 × nM) (h : fX12_readDeed N z1 M = some r) : n_Met l w 5 mX12_readDeed [.ref 107, .int z1] (G, M) (dv_i r.1, (G, r.2)) :=
  n_entry (by decide +kernel) rfl (Nat.le_of_ble_eq_true rfl) (n_sub (lv := [(0, .ref 107), (1, .int z1)]) (n_qc rfl (n_qc rfl n_qe)) (bX12_readDeed_0 N hG z1 M r h))
abbrev hX12_readDeed (N : Nat) : nF := fun T as M k => n_pC 107 as (fun as => n_pI as (fun z1 as => n_pE as ((fX12_readDeed N z1 M).bind fun p => k (dv_i p.1) p.2)))
theorem csX12_readDeed {l : Launch} {w : nW} (N : Nat) {G : nG} (hG : n_GOK G) : n_CS l w 5 mX12_readDeed G (hX12_readDeed N) := fun T as M k r h => by
  obtain ⟨t0, rfl, h1⟩ := n_pC_x h
  obtain ⟨z1, t1, rfl, h2⟩ := n_pI_x h1
  obtain ⟨rfl, hE⟩ := n_pE_x h2
  obtain ⟨p, hp, hk⟩ := Option.bind_eq_some_iff.mp hE
  exact ⟨_, _, eX12_readDeed N hG z1 M p hp, hk⟩
/-! ===== SleightHouseModel.readCustoms()I ===== -/
def mX12_readCustoms : nY := (RX12, yX12_readCustoms, cX12_readCustoms, 2, some .int)
theorem okX12_readCustoms : n_MOK mX12_readCustoms 0 := ⟨w_1764, w_151, ⟨by decide +kernel, by decide +kernel, by decide +kernel⟩, by decide⟩
abbrev aX12_readCustoms (N : Nat) : List (Nat × nO (Int32 × nM)) := [(0, o_push (.int (0 : Int32)) 1), (1, o_istore 2 1 2), (2, o_aload 0 3), (3, o_push (.int (18 : Int32)) 5), (5, o_callVc 107 1 (hX12_isWord) 8), (8, oi_eq 46 11), (11, o_iload 1 12), (12, o_push (.int (16 : Int32)) 14), (14, oc_ne 23 17), (17, o_aload 0 18), (18, o_push (.int (3 : Int32)) 19), (19, o_callVc 107 1 (hX12_errs) 22), (22, o_iret), (23, o_aload 0 24), (24, o_push (.int (64 : Int32)) 26), (26, o_push (.int (4 : Int32)) 27), (27, o_iload 1 28), (28, o_imul 29), (29, o_iadd 30), (30, o_callVc 107 1 (hX12_readDeed N) 33), (33, o_push (.int (-1 : Int32)) 34), (34, oc_ne 39 37), (37, o_push (.int (-1 : Int32)) 38), (38, o_iret), (39, o_iload 1 40), (40, o_push (.int (1 : Int32)) 41), (41, o_iadd 42), (42, o_istore 2 1 43), (43, o_goto 2), (46, o_aload 0 47), (47, o_gIc 107 18 50), (50, oi_ne 57 53), (53, o_iload 1 54), (54, o_goto 62), (57, o_aload 0 58), (58, o_push (.int (1 : Int32)) 59), (59, o_callVc 107 1 (hX12_errs) 62), (62, o_iret)]
set_option maxRecDepth 200000 in
theorem iX12_readCustoms {l : Launch} {w : nW} (N : Nat) {G : nG} (hG : n_GOK G) : n_AllS l w 6 mX12_readCustoms G (n_fin dv_i G) (aX12_readCustoms N) :=
  n_c (s_iconst (pc := 0) (n := 0) (by decide +kernel) (by decide +kernel)) <|
  n_c (s_istore_n (pc := 1) (k := 1) (by decide +kernel)) <|
  n_c (s_aload_n (pc := 2) (k := 0) (by decide +kernel)) <|
  n_c (s_bipush (pc := 3) (n := 18) (by decide +kernel) (by decide +kernel)) <|
  n_c (s_callVc (s_callV (pc := 5) (csX12_isWord hG) (by decide) okX12_isWord nok12 w_1735 w_60 w_1733 (by decide +kernel)) (gk107 hG)) <|
  n_c (s_if_eq (pc := 8) (off := 38) (by decide +kernel) (by decide +kernel)) <|
  n_c (s_iload_n (pc := 11) (k := 1) (by decide +kernel)) <|
  n_c (s_bipush (pc := 12) (n := 16) (by decide +kernel) (by decide +kernel)) <|
  n_c (s_icmp_ne (pc := 14) (off := 9) (by decide +kernel) (by decide +kernel)) <|
  n_c (s_aload_n (pc := 17) (k := 0) (by decide +kernel)) <|
  n_c (s_iconst (pc := 18) (n := 3) (by decide +kernel) (by decide +kernel)) <|
  n_c (s_callVc (s_callV (pc := 19) (csX12_errs hG) (by decide) okX12_errs nok12 w_1739 w_61 w_1737 (by decide +kernel)) (gk107 hG)) <|
  n_c (s_iret (pc := 22) rfl (by decide +kernel)) <|
  n_c (s_aload_n (pc := 23) (k := 0) (by decide +kernel)) <|
  n_c (s_bipush (pc := 24) (n := 64) (by decide +kernel) (by decide +kernel)) <|
  n_c (s_iconst (pc := 26) (n := 4) (by decide +kernel) (by decide +kernel)) <|
  n_c (s_iload_n (pc := 27) (k := 1) (by decide +kernel)) <|
  n_c (s_imul (pc := 28) (by decide +kernel)) <|
  n_c (s_iadd (pc := 29) (by decide +kernel)) <|
  n_c (s_callVc (s_callV (pc := 30) (csX12_readDeed N hG) (by decide) okX12_readDeed nok12 w_1767 w_68 w_1765 (by decide +kernel)) (gk107 hG)) <|
  n_c (s_iconst (pc := 33) (n := -1) (by decide +kernel) (by decide +kernel)) <|
  n_c (s_icmp_ne (pc := 34) (off := 5) (by decide +kernel) (by decide +kernel)) <|
  n_c (s_iconst (pc := 37) (n := -1) (by decide +kernel) (by decide +kernel)) <|
  n_c (s_iret (pc := 38) rfl (by decide +kernel)) <|
  n_c (s_iload_n (pc := 39) (k := 1) (by decide +kernel)) <|
  n_c (s_iconst (pc := 40) (n := 1) (by decide +kernel) (by decide +kernel)) <|
  n_c (s_iadd (pc := 41) (by decide +kernel)) <|
  n_c (s_istore_n (pc := 42) (k := 1) (by decide +kernel)) <|
  n_c (s_goto (pc := 43) (off := -41) (by decide +kernel) (by decide +kernel)) <|
  n_c (s_aload_n (pc := 46) (k := 0) (by decide +kernel)) <|
  n_c (s_gIc (s_getI (pc := 47) (ci := 12) (k := 18) (idx := 204) nok12 (by decide) rfl (by decide +kernel) w_1425) (gk107 hG)) <|
  n_c (s_if_ne (pc := 50) (off := 7) (by decide +kernel) (by decide +kernel)) <|
  n_c (s_iload_n (pc := 53) (k := 1) (by decide +kernel)) <|
  n_c (s_goto (pc := 54) (off := 8) (by decide +kernel) (by decide +kernel)) <|
  n_c (s_aload_n (pc := 57) (k := 0) (by decide +kernel)) <|
  n_c (s_iconst (pc := 58) (n := 1) (by decide +kernel) (by decide +kernel)) <|
  n_c (s_callVc (s_callV (pc := 59) (csX12_errs hG) (by decide) okX12_errs nok12 w_1739 w_61 w_1737 (by decide +kernel)) (gk107 hG)) <|
  n_c (s_iret (pc := 62) rfl (by decide +kernel)) <|
  n_e
def fX12_readCustoms_2 (N : Nat) : Nat → Int32 → nM → Option (Int32 × nM)
  | 0, _, _ => none
  | n + 1, x1, M =>
    (fX12_isWord (18 : Int32) M).bind fun p1 =>
    if p1.1 = 0 then
      if ¬ (p1.2 107 18) = 0 then
        (fX12_errs (1 : Int32) p1.2).bind fun p2 =>
        some (p2.1, p2.2)
      else
        some (x1, p1.2)
    else
      if ¬ x1 = (16 : Int32) then
        (fX12_readDeed N ((64 : Int32) + ((4 : Int32) * x1)) p1.2).bind fun p3 =>
        if ¬ p3.1 = (-1 : Int32) then
          let v4 : Int32 := (x1 + (1 : Int32))
          fX12_readCustoms_2 N n v4 p3.2
        else
          some ((-1 : Int32), p3.2)
      else
        (fX12_errs (3 : Int32) p1.2).bind fun p5 =>
        some (p5.1, p5.2)
set_option maxRecDepth 200000 in
theorem bX12_readCustoms_2 {l : Launch} {w : nW} (N : Nat) {G : nG} (hG : n_GOK G) : ∀ (n : Nat) (x1 : Int32) (M : nM) (r : Int32 × nM), fX12_readCustoms_2 N n x1 M = some r → n_At l w 6 mX12_readCustoms 2 [(0, .ref 107), (1, .int x1)] [] (G, M) (dv_i r.1, (G, r.2)) := by
  intro n
  induction n with
  | zero => intro x1 M r h; cases (show (none : Option (Int32 × nM)) = some r from h)
  | succ n ih =>
    intro x1 M r h
    exact n_seg (fin := n_fin dv_i G) (K := [(2, fun lv st M => n_lC 107 lv 0 (n_lI lv 1 (fun x1 => n_pE st (fX12_readCustoms_2 N n x1 M))))]) 40 (iX12_readCustoms N hG) (n_kc (fun lv st M r h => by
      obtain ⟨e0, h1⟩ := n_lC_x h
      obtain ⟨x1, e1, h2⟩ := n_lI_x h1
      obtain ⟨rfl, h3⟩ := n_pE_x h2
      exact n_sub (n_qc e0 (n_qc e1 n_qe)) (ih x1 M r h3)) n_ke) (by rfl) h
def fX12_readCustoms (N : Nat) (M : nM) : Option (Int32 × nM) :=
  fX12_readCustoms_2 N N (0 : Int32) M
set_option maxRecDepth 200000 in
theorem bX12_readCustoms_0 {l : Launch} {w : nW} (N : Nat) {G : nG} (hG : n_GOK G) (M : nM) (r : Int32 × nM) (h : fX12_readCustoms N M = some r) : n_At l w 6 mX12_readCustoms 0 [(0, .ref 107)] [] (G, M) (dv_i r.1, (G, r.2)) :=
  n_seg (fin := n_fin dv_i G) (K := [(2, fun lv st M => n_lC 107 lv 0 (n_lI lv 1 (fun x1 => n_pE st (fX12_readCustoms_2 N N x1 M))))]) 5 (iX12_readCustoms N hG) (n_kc (fun lv st M r h => by
      obtain ⟨e0, h1⟩ := n_lC_x h
      obtain ⟨x1, e1, h2⟩ := n_lI_x h1
      obtain ⟨rfl, h3⟩ := n_pE_x h2
      exact n_sub (n_qc e0 (n_qc e1 n_qe)) (bX12_readCustoms_2 N hG N x1 M r h3)) n_ke) (by rfl) h
theorem eX12_readCustoms {l : Launch} {w : nW} (N : Nat) {G : nG} (hG : n_GOK G) (M : nM) (r : Int32 × nM) (h : fX12_readCustoms N M = some r) : n_Met l w 6 mX12_readCustoms [.ref 107] (G, M) (dv_i r.1, (G, r.2)) :=
  n_entry (by decide +kernel) rfl (Nat.le_of_ble_eq_true rfl) (n_sub (lv := [(0, .ref 107)]) (n_qc rfl n_qe) (bX12_readCustoms_0 N hG M r h))
abbrev hX12_readCustoms (N : Nat) : nF := fun T as M k => n_pC 107 as (fun as => n_pE as ((fX12_readCustoms N M).bind fun p => k (dv_i p.1) p.2))
theorem csX12_readCustoms {l : Launch} {w : nW} (N : Nat) {G : nG} (hG : n_GOK G) : n_CS l w 6 mX12_readCustoms G (hX12_readCustoms N) := fun T as M k r h => by
  obtain ⟨t0, rfl, h1⟩ := n_pC_x h
  obtain ⟨rfl, hE⟩ := n_pE_x h1
  obtain ⟨p, hp, hk⟩ := Option.bind_eq_some_iff.mp hE
  exact ⟨_, _, eX12_readCustoms N hG M p hp, hk⟩
/-! ===== SleightHouseModel.readChild()I ===== -/
def mX12_readChild : nY := (RX12, yX12_readChild, cX12_readChild, 3, some .int)
theorem okX12_readChild : n_MOK mX12_readChild 0 := ⟨w_1780, w_151, ⟨by decide +kernel, by decide +kernel, by decide +kernel⟩, by decide⟩
abbrev aX12_readChild (N : Nat) : List (Nat × nO (Int32 × nM)) := [(0, o_aload 0 1), (1, o_push (.int (19 : Int32)) 3), (3, o_callVc 107 1 (hX12_isWord) 6), (6, oi_ne 15 9), (9, o_aload 0 10), (10, o_push (.int (1 : Int32)) 11), (11, o_callVc 107 1 (hX12_errs) 14), (14, o_iret), (15, o_aload 0 16), (16, o_callVc 107 0 (hX12_reads N) 19), (19, o_aload 0 20), (20, o_gIc 107 18 23), (23, o_push (.int (3 : Int32)) 24), (24, oc_ne 57 27), (27, o_aload 0 28), (28, o_gIc 107 19 31), (31, o_aload 0 32), (32, o_gIc 107 7 35), (35, oc_ge 57 38), (38, o_aload 0 39), (39, o_gRc 107 130 42), (42, o_aload 0 43), (43, o_gIc 107 19 46), (46, o_aldc 130 12 47), (47, o_push (.int (2 : Int32)) 48), (48, oc_ne 57 51), (51, o_aload 0 52), (52, o_push (.int (2 : Int32)) 53), (53, o_callVc 107 1 (hX12_errs) 56), (56, o_iret), (57, o_aload 0 58), (58, o_push (.int (0 : Int32)) 59), (59, o_aload 0 60), (60, o_gIc 107 7 63), (63, o_push (.int (1 : Int32)) 64), (64, o_isub 65), (65, o_callVc 107 2 (hX12_readNumber N) 68), (68, o_istore 3 1 69), (69, o_iload 1 70), (70, o_push (.int (-1 : Int32)) 71), (71, oc_ne 76 74), (74, o_push (.int (-1 : Int32)) 75), (75, o_iret), (76, o_aload 0 77), (77, o_gRc 107 130 80), (80, o_iload 1 81), (81, o_aload 0 82), (82, o_gRc 107 130 85), (85, o_iload 1 86), (86, o_aldc 130 12 87), (87, o_push (.int (1 : Int32)) 88), (88, o_iadd 89), (89, o_iastc 130 12 90), (90, o_aload 0 91), (91, o_push (.int (26 : Int32)) 93), (93, o_callVc 107 1 (hX12_isWord) 96), (96, oi_ne 105 99), (99, o_aload 0 100), (100, o_push (.int (1 : Int32)) 101), (101, o_callVc 107 1 (hX12_errs) 104), (104, o_iret), (105, o_aload 0 106), (106, o_callVc 107 0 (hX12_reads N) 109), (109, o_aload 0 110), (110, o_push (.int (27 : Int32)) 112), (112, o_callVc 107 1 (hX12_isWord) 115), (115, oi_ne 124 118), (118, o_aload 0 119), (119, o_push (.int (1 : Int32)) 120), (120, o_callVc 107 1 (hX12_errs) 123), (123, o_iret), (124, o_aload 0 125), (125, o_callVc 107 0 (hX12_reads N) 128), (128, o_aload 0 129), (129, o_gIc 107 18 132), (132, o_push (.int (3 : Int32)) 133), (133, oc_ne 150 136), (136, o_aload 0 137), (137, o_gIc 107 19 140), (140, o_iload 1 141), (141, oc_ne 150 144), (144, o_aload 0 145), (145, o_push (.int (2 : Int32)) 146), (146, o_callVc 107 1 (hX12_errs) 149), (149, o_iret), (150, o_aload 0 151), (151, o_push (.int (0 : Int32)) 152), (152, o_aload 0 153), (153, o_gIc 107 7 156), (156, o_push (.int (1 : Int32)) 157), (157, o_isub 158), (158, o_callVc 107 2 (hX12_readNumber N) 161), (161, o_istore 3 2 162), (162, o_iload 2 163), (163, o_push (.int (-1 : Int32)) 164), (164, oc_ne 169 167), (167, o_push (.int (-1 : Int32)) 168), (168, o_iret), (169, o_aload 0 170), (170, o_gRc 107 129 173), (173, o_push (.int (12 : Int32)) 175), (175, o_iload 1 176), (176, o_iadd 177), (177, o_aload 0 178), (178, o_gRc 107 129 181), (181, o_push (.int (12 : Int32)) 183), (183, o_iload 1 184), (184, o_iadd 185), (185, o_aldc 129 24 186), (186, o_push (.int (1 : Int32)) 187), (187, o_iload 2 188), (188, o_ishl 189), (189, o_ior 190), (190, o_iastc 129 24 191), (191, o_aload 0 192), (192, o_push (.int (59 : Int32)) 194), (194, o_callVc 107 1 (hX12_readMark N) 197), (197, o_iret)]
set_option maxRecDepth 200000 in
theorem iX12_readChild {l : Launch} {w : nW} (N : Nat) {G : nG} (hG : n_GOK G) : n_AllS l w 4 mX12_readChild G (n_fin dv_i G) (aX12_readChild N) :=
  n_c (s_aload_n (pc := 0) (k := 0) (by decide +kernel)) <|
  n_c (s_bipush (pc := 1) (n := 19) (by decide +kernel) (by decide +kernel)) <|
  n_c (s_callVc (s_callV (pc := 3) (csX12_isWord hG) (by decide) okX12_isWord nok12 w_1735 w_60 w_1733 (by decide +kernel)) (gk107 hG)) <|
  n_c (s_if_ne (pc := 6) (off := 9) (by decide +kernel) (by decide +kernel)) <|
  n_c (s_aload_n (pc := 9) (k := 0) (by decide +kernel)) <|
  n_c (s_iconst (pc := 10) (n := 1) (by decide +kernel) (by decide +kernel)) <|
  n_c (s_callVc (s_callV (pc := 11) (csX12_errs hG) (by decide) okX12_errs nok12 w_1739 w_61 w_1737 (by decide +kernel)) (gk107 hG)) <|
  n_c (s_iret (pc := 14) rfl (by decide +kernel)) <|
  n_c (s_aload_n (pc := 15) (k := 0) (by decide +kernel)) <|
  n_c (s_callVc (s_callV (pc := 16) (csX12_reads N hG) (by decide) okX12_reads nok12 w_1707 w_53 w_1705 (by decide +kernel)) (gk107 hG)) <|
  n_c (s_aload_n (pc := 19) (k := 0) (by decide +kernel)) <|
  n_c (s_gIc (s_getI (pc := 20) (ci := 12) (k := 18) (idx := 204) nok12 (by decide) rfl (by decide +kernel) w_1425) (gk107 hG)) <|
  n_c (s_iconst (pc := 23) (n := 3) (by decide +kernel) (by decide +kernel)) <|
  n_c (s_icmp_ne (pc := 24) (off := 33) (by decide +kernel) (by decide +kernel)) <|
  n_c (s_aload_n (pc := 27) (k := 0) (by decide +kernel)) <|
  n_c (s_gIc (s_getI (pc := 28) (ci := 12) (k := 19) (idx := 207) nok12 (by decide) rfl (by decide +kernel) w_1426) (gk107 hG)) <|
  n_c (s_aload_n (pc := 31) (k := 0) (by decide +kernel)) <|
  n_c (s_gIc (s_getI (pc := 32) (ci := 12) (k := 7) (idx := 161) nok12 (by decide) rfl (by decide +kernel) w_1414) (gk107 hG)) <|
  n_c (s_icmp_ge (pc := 35) (off := 22) (by decide +kernel) (by decide +kernel)) <|
  n_c (s_aload_n (pc := 38) (k := 0) (by decide +kernel)) <|
  n_c (s_gRc (s_getR (pc := 39) (ci := 12) (k := 43) (idx := 80) nok12 (by decide) rfl (by decide +kernel) w_1450) (gk107 hG) (gm107_43 hG)) <|
  n_c (s_aload_n (pc := 42) (k := 0) (by decide +kernel)) <|
  n_c (s_gIc (s_getI (pc := 43) (ci := 12) (k := 19) (idx := 207) nok12 (by decide) rfl (by decide +kernel) w_1426) (gk107 hG)) <|
  n_c (s_aldc (s_iaload (pc := 46) (by decide +kernel)) (gk130 hG) (gl130 hG)) <|
  n_c (s_iconst (pc := 47) (n := 2) (by decide +kernel) (by decide +kernel)) <|
  n_c (s_icmp_ne (pc := 48) (off := 9) (by decide +kernel) (by decide +kernel)) <|
  n_c (s_aload_n (pc := 51) (k := 0) (by decide +kernel)) <|
  n_c (s_iconst (pc := 52) (n := 2) (by decide +kernel) (by decide +kernel)) <|
  n_c (s_callVc (s_callV (pc := 53) (csX12_errs hG) (by decide) okX12_errs nok12 w_1739 w_61 w_1737 (by decide +kernel)) (gk107 hG)) <|
  n_c (s_iret (pc := 56) rfl (by decide +kernel)) <|
  n_c (s_aload_n (pc := 57) (k := 0) (by decide +kernel)) <|
  n_c (s_iconst (pc := 58) (n := 0) (by decide +kernel) (by decide +kernel)) <|
  n_c (s_aload_n (pc := 59) (k := 0) (by decide +kernel)) <|
  n_c (s_gIc (s_getI (pc := 60) (ci := 12) (k := 7) (idx := 161) nok12 (by decide) rfl (by decide +kernel) w_1414) (gk107 hG)) <|
  n_c (s_iconst (pc := 63) (n := 1) (by decide +kernel) (by decide +kernel)) <|
  n_c (s_isub (pc := 64) (by decide +kernel)) <|
  n_c (s_callVc (s_callV (pc := 65) (csX12_readNumber N hG) (by decide) okX12_readNumber nok12 w_1751 w_64 w_1749 (by decide +kernel)) (gk107 hG)) <|
  n_c (s_istore_n (pc := 68) (k := 1) (by decide +kernel)) <|
  n_c (s_iload_n (pc := 69) (k := 1) (by decide +kernel)) <|
  n_c (s_iconst (pc := 70) (n := -1) (by decide +kernel) (by decide +kernel)) <|
  n_c (s_icmp_ne (pc := 71) (off := 5) (by decide +kernel) (by decide +kernel)) <|
  n_c (s_iconst (pc := 74) (n := -1) (by decide +kernel) (by decide +kernel)) <|
  n_c (s_iret (pc := 75) rfl (by decide +kernel)) <|
  n_c (s_aload_n (pc := 76) (k := 0) (by decide +kernel)) <|
  n_c (s_gRc (s_getR (pc := 77) (ci := 12) (k := 43) (idx := 80) nok12 (by decide) rfl (by decide +kernel) w_1450) (gk107 hG) (gm107_43 hG)) <|
  n_c (s_iload_n (pc := 80) (k := 1) (by decide +kernel)) <|
  n_c (s_aload_n (pc := 81) (k := 0) (by decide +kernel)) <|
  n_c (s_gRc (s_getR (pc := 82) (ci := 12) (k := 43) (idx := 80) nok12 (by decide) rfl (by decide +kernel) w_1450) (gk107 hG) (gm107_43 hG)) <|
  n_c (s_iload_n (pc := 85) (k := 1) (by decide +kernel)) <|
  n_c (s_aldc (s_iaload (pc := 86) (by decide +kernel)) (gk130 hG) (gl130 hG)) <|
  n_c (s_iconst (pc := 87) (n := 1) (by decide +kernel) (by decide +kernel)) <|
  n_c (s_iadd (pc := 88) (by decide +kernel)) <|
  n_c (s_iastc (s_iastore (pc := 89) (by decide +kernel)) (gk130 hG) (gl130 hG)) <|
  n_c (s_aload_n (pc := 90) (k := 0) (by decide +kernel)) <|
  n_c (s_bipush (pc := 91) (n := 26) (by decide +kernel) (by decide +kernel)) <|
  n_c (s_callVc (s_callV (pc := 93) (csX12_isWord hG) (by decide) okX12_isWord nok12 w_1735 w_60 w_1733 (by decide +kernel)) (gk107 hG)) <|
  n_c (s_if_ne (pc := 96) (off := 9) (by decide +kernel) (by decide +kernel)) <|
  n_c (s_aload_n (pc := 99) (k := 0) (by decide +kernel)) <|
  n_c (s_iconst (pc := 100) (n := 1) (by decide +kernel) (by decide +kernel)) <|
  n_c (s_callVc (s_callV (pc := 101) (csX12_errs hG) (by decide) okX12_errs nok12 w_1739 w_61 w_1737 (by decide +kernel)) (gk107 hG)) <|
  n_c (s_iret (pc := 104) rfl (by decide +kernel)) <|
  n_c (s_aload_n (pc := 105) (k := 0) (by decide +kernel)) <|
  n_c (s_callVc (s_callV (pc := 106) (csX12_reads N hG) (by decide) okX12_reads nok12 w_1707 w_53 w_1705 (by decide +kernel)) (gk107 hG)) <|
  n_c (s_aload_n (pc := 109) (k := 0) (by decide +kernel)) <|
  n_c (s_bipush (pc := 110) (n := 27) (by decide +kernel) (by decide +kernel)) <|
  n_c (s_callVc (s_callV (pc := 112) (csX12_isWord hG) (by decide) okX12_isWord nok12 w_1735 w_60 w_1733 (by decide +kernel)) (gk107 hG)) <|
  n_c (s_if_ne (pc := 115) (off := 9) (by decide +kernel) (by decide +kernel)) <|
  n_c (s_aload_n (pc := 118) (k := 0) (by decide +kernel)) <|
  n_c (s_iconst (pc := 119) (n := 1) (by decide +kernel) (by decide +kernel)) <|
  n_c (s_callVc (s_callV (pc := 120) (csX12_errs hG) (by decide) okX12_errs nok12 w_1739 w_61 w_1737 (by decide +kernel)) (gk107 hG)) <|
  n_c (s_iret (pc := 123) rfl (by decide +kernel)) <|
  n_c (s_aload_n (pc := 124) (k := 0) (by decide +kernel)) <|
  n_c (s_callVc (s_callV (pc := 125) (csX12_reads N hG) (by decide) okX12_reads nok12 w_1707 w_53 w_1705 (by decide +kernel)) (gk107 hG)) <|
  n_c (s_aload_n (pc := 128) (k := 0) (by decide +kernel)) <|
  n_c (s_gIc (s_getI (pc := 129) (ci := 12) (k := 18) (idx := 204) nok12 (by decide) rfl (by decide +kernel) w_1425) (gk107 hG)) <|
  n_c (s_iconst (pc := 132) (n := 3) (by decide +kernel) (by decide +kernel)) <|
  n_c (s_icmp_ne (pc := 133) (off := 17) (by decide +kernel) (by decide +kernel)) <|
  n_c (s_aload_n (pc := 136) (k := 0) (by decide +kernel)) <|
  n_c (s_gIc (s_getI (pc := 137) (ci := 12) (k := 19) (idx := 207) nok12 (by decide) rfl (by decide +kernel) w_1426) (gk107 hG)) <|
  n_c (s_iload_n (pc := 140) (k := 1) (by decide +kernel)) <|
  n_c (s_icmp_ne (pc := 141) (off := 9) (by decide +kernel) (by decide +kernel)) <|
  n_c (s_aload_n (pc := 144) (k := 0) (by decide +kernel)) <|
  n_c (s_iconst (pc := 145) (n := 2) (by decide +kernel) (by decide +kernel)) <|
  n_c (s_callVc (s_callV (pc := 146) (csX12_errs hG) (by decide) okX12_errs nok12 w_1739 w_61 w_1737 (by decide +kernel)) (gk107 hG)) <|
  n_c (s_iret (pc := 149) rfl (by decide +kernel)) <|
  n_c (s_aload_n (pc := 150) (k := 0) (by decide +kernel)) <|
  n_c (s_iconst (pc := 151) (n := 0) (by decide +kernel) (by decide +kernel)) <|
  n_c (s_aload_n (pc := 152) (k := 0) (by decide +kernel)) <|
  n_c (s_gIc (s_getI (pc := 153) (ci := 12) (k := 7) (idx := 161) nok12 (by decide) rfl (by decide +kernel) w_1414) (gk107 hG)) <|
  n_c (s_iconst (pc := 156) (n := 1) (by decide +kernel) (by decide +kernel)) <|
  n_c (s_isub (pc := 157) (by decide +kernel)) <|
  n_c (s_callVc (s_callV (pc := 158) (csX12_readNumber N hG) (by decide) okX12_readNumber nok12 w_1751 w_64 w_1749 (by decide +kernel)) (gk107 hG)) <|
  n_c (s_istore_n (pc := 161) (k := 2) (by decide +kernel)) <|
  n_c (s_iload_n (pc := 162) (k := 2) (by decide +kernel)) <|
  n_c (s_iconst (pc := 163) (n := -1) (by decide +kernel) (by decide +kernel)) <|
  n_c (s_icmp_ne (pc := 164) (off := 5) (by decide +kernel) (by decide +kernel)) <|
  n_c (s_iconst (pc := 167) (n := -1) (by decide +kernel) (by decide +kernel)) <|
  n_c (s_iret (pc := 168) rfl (by decide +kernel)) <|
  n_c (s_aload_n (pc := 169) (k := 0) (by decide +kernel)) <|
  n_c (s_gRc (s_getR (pc := 170) (ci := 12) (k := 42) (idx := 77) nok12 (by decide) rfl (by decide +kernel) w_1449) (gk107 hG) (gm107_42 hG)) <|
  n_c (s_bipush (pc := 173) (n := 12) (by decide +kernel) (by decide +kernel)) <|
  n_c (s_iload_n (pc := 175) (k := 1) (by decide +kernel)) <|
  n_c (s_iadd (pc := 176) (by decide +kernel)) <|
  n_c (s_aload_n (pc := 177) (k := 0) (by decide +kernel)) <|
  n_c (s_gRc (s_getR (pc := 178) (ci := 12) (k := 42) (idx := 77) nok12 (by decide) rfl (by decide +kernel) w_1449) (gk107 hG) (gm107_42 hG)) <|
  n_c (s_bipush (pc := 181) (n := 12) (by decide +kernel) (by decide +kernel)) <|
  n_c (s_iload_n (pc := 183) (k := 1) (by decide +kernel)) <|
  n_c (s_iadd (pc := 184) (by decide +kernel)) <|
  n_c (s_aldc (s_iaload (pc := 185) (by decide +kernel)) (gk129 hG) (gl129 hG)) <|
  n_c (s_iconst (pc := 186) (n := 1) (by decide +kernel) (by decide +kernel)) <|
  n_c (s_iload_n (pc := 187) (k := 2) (by decide +kernel)) <|
  n_c (s_ishl (pc := 188) (by decide +kernel)) <|
  n_c (s_ior (pc := 189) (by decide +kernel)) <|
  n_c (s_iastc (s_iastore (pc := 190) (by decide +kernel)) (gk129 hG) (gl129 hG)) <|
  n_c (s_aload_n (pc := 191) (k := 0) (by decide +kernel)) <|
  n_c (s_bipush (pc := 192) (n := 59) (by decide +kernel) (by decide +kernel)) <|
  n_c (s_callVc (s_callV (pc := 194) (csX12_readMark N hG) (by decide) okX12_readMark nok12 w_1755 w_65 w_1753 (by decide +kernel)) (gk107 hG)) <|
  n_c (s_iret (pc := 197) rfl (by decide +kernel)) <|
  n_e
def fX12_readChild_150 (N : Nat) (x1 : Int32) (M : nM) : Option (Int32 × nM) :=
  (fX12_readNumber N (0 : Int32) ((M 107 7) - (1 : Int32)) M).bind fun p1 =>
  if ¬ p1.1 = (-1 : Int32) then
    n_chk (n_ib 24 ((12 : Int32) + x1)) <|
    n_chk (n_ib 24 ((12 : Int32) + x1)) <|
    let M2 : nM := n_up p1.2 129 ((12 : Int32) + x1).toNatClampNeg ((p1.2 129 ((12 : Int32) + x1).toNatClampNeg) ||| ((1 : Int32) <<< (p1.1 &&& 31)))
    (fX12_readMark N (59 : Int32) M2).bind fun p3 =>
    some (p3.1, p3.2)
  else
    some ((-1 : Int32), p1.2)
set_option maxRecDepth 200000 in
theorem bX12_readChild_150 {l : Launch} {w : nW} (N : Nat) {G : nG} (hG : n_GOK G) (x1 : Int32) (M : nM) (r : Int32 × nM) (h : fX12_readChild_150 N x1 M = some r) : n_At l w 4 mX12_readChild 150 [(0, .ref 107), (1, .int x1)] [] (G, M) (dv_i r.1, (G, r.2)) :=
  n_seg (fin := n_fin dv_i G) (K := []) 36 (iX12_readChild N hG) n_ke (by rfl) h
def fX12_readChild_57 (N : Nat) (M : nM) : Option (Int32 × nM) :=
  (fX12_readNumber N (0 : Int32) ((M 107 7) - (1 : Int32)) M).bind fun p1 =>
  if ¬ p1.1 = (-1 : Int32) then
    n_chk (n_ib 12 p1.1) <|
    n_chk (n_ib 12 p1.1) <|
    let M2 : nM := n_up p1.2 130 p1.1.toNatClampNeg ((p1.2 130 p1.1.toNatClampNeg) + (1 : Int32))
    (fX12_isWord (26 : Int32) M2).bind fun p3 =>
    if ¬ p3.1 = 0 then
      (fX12_reads_all N p3.2).bind fun p4 =>
      (fX12_isWord (27 : Int32) p4.2).bind fun p5 =>
      if ¬ p5.1 = 0 then
        (fX12_reads_all N p5.2).bind fun p6 =>
        if ¬ (p6.2 107 18) = (3 : Int32) then
          fX12_readChild_150 N p1.1 p6.2
        else
          if ¬ (p6.2 107 19) = p1.1 then
            fX12_readChild_150 N p1.1 p6.2
          else
            (fX12_errs (2 : Int32) p6.2).bind fun p7 =>
            some (p7.1, p7.2)
      else
        (fX12_errs (1 : Int32) p5.2).bind fun p8 =>
        some (p8.1, p8.2)
    else
      (fX12_errs (1 : Int32) p3.2).bind fun p9 =>
      some (p9.1, p9.2)
  else
    some ((-1 : Int32), p1.2)
set_option maxRecDepth 200000 in
theorem bX12_readChild_57 {l : Launch} {w : nW} (N : Nat) {G : nG} (hG : n_GOK G) (M : nM) (r : Int32 × nM) (h : fX12_readChild_57 N M = some r) : n_At l w 4 mX12_readChild 57 [(0, .ref 107)] [] (G, M) (dv_i r.1, (G, r.2)) :=
  n_seg (fin := n_fin dv_i G) (K := [(150, fun lv st M => n_lC 107 lv 0 (n_lI lv 1 (fun x1 => n_pE st (fX12_readChild_150 N x1 M))))]) 58 (iX12_readChild N hG) (n_kc (fun lv st M r h => by
      obtain ⟨e0, h1⟩ := n_lC_x h
      obtain ⟨x1, e1, h2⟩ := n_lI_x h1
      obtain ⟨rfl, h3⟩ := n_pE_x h2
      exact n_sub (n_qc e0 (n_qc e1 n_qe)) (bX12_readChild_150 N hG x1 M r h3)) n_ke) (by rfl) h
def fX12_readChild (N : Nat) (M : nM) : Option (Int32 × nM) :=
  (fX12_isWord (19 : Int32) M).bind fun p1 =>
  if ¬ p1.1 = 0 then
    (fX12_reads_all N p1.2).bind fun p2 =>
    if ¬ (p2.2 107 18) = (3 : Int32) then
      fX12_readChild_57 N p2.2
    else
      if (p2.2 107 7) ≤ (p2.2 107 19) then
        fX12_readChild_57 N p2.2
      else
        n_chk (n_ib 12 (p2.2 107 19)) <|
        if ¬ (p2.2 130 (p2.2 107 19).toNatClampNeg) = (2 : Int32) then
          fX12_readChild_57 N p2.2
        else
          (fX12_errs (2 : Int32) p2.2).bind fun p3 =>
          some (p3.1, p3.2)
  else
    (fX12_errs (1 : Int32) p1.2).bind fun p4 =>
    some (p4.1, p4.2)
set_option maxRecDepth 200000 in
theorem bX12_readChild_0 {l : Launch} {w : nW} (N : Nat) {G : nG} (hG : n_GOK G) (M : nM) (r : Int32 × nM) (h : fX12_readChild N M = some r) : n_At l w 4 mX12_readChild 0 [(0, .ref 107)] [] (G, M) (dv_i r.1, (G, r.2)) :=
  n_seg (fin := n_fin dv_i G) (K := [(57, fun lv st M => n_lC 107 lv 0 (n_pE st (fX12_readChild_57 N M)))]) 33 (iX12_readChild N hG) (n_kc (fun lv st M r h => by
      obtain ⟨e0, h1⟩ := n_lC_x h
      obtain ⟨rfl, h2⟩ := n_pE_x h1
      exact n_sub (n_qc e0 n_qe) (bX12_readChild_57 N hG M r h2)) n_ke) (by rfl) h
theorem eX12_readChild {l : Launch} {w : nW} (N : Nat) {G : nG} (hG : n_GOK G) (M : nM) (r : Int32 × nM) (h : fX12_readChild N M = some r) : n_Met l w 4 mX12_readChild [.ref 107] (G, M) (dv_i r.1, (G, r.2)) :=
  n_entry (by decide +kernel) rfl (Nat.le_of_ble_eq_true rfl) (n_sub (lv := [(0, .ref 107)]) (n_qc rfl n_qe) (bX12_readChild_0 N hG M r h))
abbrev hX12_readChild (N : Nat) : nF := fun T as M k => n_pC 107 as (fun as => n_pE as ((fX12_readChild N M).bind fun p => k (dv_i p.1) p.2))
theorem csX12_readChild {l : Launch} {w : nW} (N : Nat) {G : nG} (hG : n_GOK G) : n_CS l w 4 mX12_readChild G (hX12_readChild N) := fun T as M k r h => by
  obtain ⟨t0, rfl, h1⟩ := n_pC_x h
  obtain ⟨rfl, hE⟩ := n_pE_x h1
  obtain ⟨p, hp, hk⟩ := Option.bind_eq_some_iff.mp hE
  exact ⟨_, _, eX12_readChild N hG M p hp, hk⟩
/-! ===== SleightHouseModel.readLine()I ===== -/
def mX12_readLine : nY := (RX12, yX12_readLine, cX12_readLine, 2, some .int)
theorem okX12_readLine : n_MOK mX12_readLine 0 := ⟨w_1776, w_151, ⟨by decide +kernel, by decide +kernel, by decide +kernel⟩, by decide⟩
abbrev aX12_readLine (N : Nat) : List (Nat × nO (Int32 × nM)) := [(0, o_push (.int (0 : Int32)) 1), (1, o_istore 2 1 2), (2, o_iload 1 3), (3, o_push (.int (12 : Int32)) 5), (5, oc_ge 31 8), (8, o_aload 0 9), (9, o_gRc 107 129 12), (12, o_push (.int (12 : Int32)) 14), (14, o_iload 1 15), (15, o_iadd 16), (16, o_push (.int (0 : Int32)) 17), (17, o_iastc 129 24 18), (18, o_aload 0 19), (19, o_gRc 107 130 22), (22, o_iload 1 23), (23, o_push (.int (0 : Int32)) 24), (24, o_iastc 130 12 25), (25, o_inc 2 1 (1 : Int32) 28), (28, o_goto 2), (31, o_push (.int (0 : Int32)) 32), (32, o_istore 2 1 33), (33, o_aload 0 34), (34, o_push (.int (19 : Int32)) 36), (36, o_callVc 107 1 (hX12_isWord) 39), (39, oi_eq 71 42), (42, o_iload 1 43), (43, o_push (.int (16 : Int32)) 45), (45, oc_ne 54 48), (48, o_aload 0 49), (49, o_push (.int (3 : Int32)) 50), (50, o_callVc 107 1 (hX12_errs) 53), (53, o_iret), (54, o_aload 0 55), (55, o_callVc 107 0 (hX12_readChild N) 58), (58, o_push (.int (-1 : Int32)) 59), (59, oc_ne 64 62), (62, o_push (.int (-1 : Int32)) 63), (63, o_iret), (64, o_iload 1 65), (65, o_push (.int (1 : Int32)) 66), (66, o_iadd 67), (67, o_istore 2 1 68), (68, o_goto 33), (71, o_aload 0 72), (72, o_gIc 107 18 75), (75, oi_ne 82 78), (78, o_iload 1 79), (79, o_goto 87), (82, o_aload 0 83), (83, o_push (.int (1 : Int32)) 84), (84, o_callVc 107 1 (hX12_errs) 87), (87, o_iret)]
set_option maxRecDepth 200000 in
theorem iX12_readLine {l : Launch} {w : nW} (N : Nat) {G : nG} (hG : n_GOK G) : n_AllS l w 5 mX12_readLine G (n_fin dv_i G) (aX12_readLine N) :=
  n_c (s_iconst (pc := 0) (n := 0) (by decide +kernel) (by decide +kernel)) <|
  n_c (s_istore_n (pc := 1) (k := 1) (by decide +kernel)) <|
  n_c (s_iload_n (pc := 2) (k := 1) (by decide +kernel)) <|
  n_c (s_bipush (pc := 3) (n := 12) (by decide +kernel) (by decide +kernel)) <|
  n_c (s_icmp_ge (pc := 5) (off := 26) (by decide +kernel) (by decide +kernel)) <|
  n_c (s_aload_n (pc := 8) (k := 0) (by decide +kernel)) <|
  n_c (s_gRc (s_getR (pc := 9) (ci := 12) (k := 42) (idx := 77) nok12 (by decide) rfl (by decide +kernel) w_1449) (gk107 hG) (gm107_42 hG)) <|
  n_c (s_bipush (pc := 12) (n := 12) (by decide +kernel) (by decide +kernel)) <|
  n_c (s_iload_n (pc := 14) (k := 1) (by decide +kernel)) <|
  n_c (s_iadd (pc := 15) (by decide +kernel)) <|
  n_c (s_iconst (pc := 16) (n := 0) (by decide +kernel) (by decide +kernel)) <|
  n_c (s_iastc (s_iastore (pc := 17) (by decide +kernel)) (gk129 hG) (gl129 hG)) <|
  n_c (s_aload_n (pc := 18) (k := 0) (by decide +kernel)) <|
  n_c (s_gRc (s_getR (pc := 19) (ci := 12) (k := 43) (idx := 80) nok12 (by decide) rfl (by decide +kernel) w_1450) (gk107 hG) (gm107_43 hG)) <|
  n_c (s_iload_n (pc := 22) (k := 1) (by decide +kernel)) <|
  n_c (s_iconst (pc := 23) (n := 0) (by decide +kernel) (by decide +kernel)) <|
  n_c (s_iastc (s_iastore (pc := 24) (by decide +kernel)) (gk130 hG) (gl130 hG)) <|
  n_c (s_iinc (pc := 25) (n := 1) (by decide +kernel) (by decide +kernel)) <|
  n_c (s_goto (pc := 28) (off := -26) (by decide +kernel) (by decide +kernel)) <|
  n_c (s_iconst (pc := 31) (n := 0) (by decide +kernel) (by decide +kernel)) <|
  n_c (s_istore_n (pc := 32) (k := 1) (by decide +kernel)) <|
  n_c (s_aload_n (pc := 33) (k := 0) (by decide +kernel)) <|
  n_c (s_bipush (pc := 34) (n := 19) (by decide +kernel) (by decide +kernel)) <|
  n_c (s_callVc (s_callV (pc := 36) (csX12_isWord hG) (by decide) okX12_isWord nok12 w_1735 w_60 w_1733 (by decide +kernel)) (gk107 hG)) <|
  n_c (s_if_eq (pc := 39) (off := 32) (by decide +kernel) (by decide +kernel)) <|
  n_c (s_iload_n (pc := 42) (k := 1) (by decide +kernel)) <|
  n_c (s_bipush (pc := 43) (n := 16) (by decide +kernel) (by decide +kernel)) <|
  n_c (s_icmp_ne (pc := 45) (off := 9) (by decide +kernel) (by decide +kernel)) <|
  n_c (s_aload_n (pc := 48) (k := 0) (by decide +kernel)) <|
  n_c (s_iconst (pc := 49) (n := 3) (by decide +kernel) (by decide +kernel)) <|
  n_c (s_callVc (s_callV (pc := 50) (csX12_errs hG) (by decide) okX12_errs nok12 w_1739 w_61 w_1737 (by decide +kernel)) (gk107 hG)) <|
  n_c (s_iret (pc := 53) rfl (by decide +kernel)) <|
  n_c (s_aload_n (pc := 54) (k := 0) (by decide +kernel)) <|
  n_c (s_callVc (s_callV (pc := 55) (csX12_readChild N hG) (by decide) okX12_readChild nok12 w_1779 w_71 w_1777 (by decide +kernel)) (gk107 hG)) <|
  n_c (s_iconst (pc := 58) (n := -1) (by decide +kernel) (by decide +kernel)) <|
  n_c (s_icmp_ne (pc := 59) (off := 5) (by decide +kernel) (by decide +kernel)) <|
  n_c (s_iconst (pc := 62) (n := -1) (by decide +kernel) (by decide +kernel)) <|
  n_c (s_iret (pc := 63) rfl (by decide +kernel)) <|
  n_c (s_iload_n (pc := 64) (k := 1) (by decide +kernel)) <|
  n_c (s_iconst (pc := 65) (n := 1) (by decide +kernel) (by decide +kernel)) <|
  n_c (s_iadd (pc := 66) (by decide +kernel)) <|
  n_c (s_istore_n (pc := 67) (k := 1) (by decide +kernel)) <|
  n_c (s_goto (pc := 68) (off := -35) (by decide +kernel) (by decide +kernel)) <|
  n_c (s_aload_n (pc := 71) (k := 0) (by decide +kernel)) <|
  n_c (s_gIc (s_getI (pc := 72) (ci := 12) (k := 18) (idx := 204) nok12 (by decide) rfl (by decide +kernel) w_1425) (gk107 hG)) <|
  n_c (s_if_ne (pc := 75) (off := 7) (by decide +kernel) (by decide +kernel)) <|
  n_c (s_iload_n (pc := 78) (k := 1) (by decide +kernel)) <|
  n_c (s_goto (pc := 79) (off := 8) (by decide +kernel) (by decide +kernel)) <|
  n_c (s_aload_n (pc := 82) (k := 0) (by decide +kernel)) <|
  n_c (s_iconst (pc := 83) (n := 1) (by decide +kernel) (by decide +kernel)) <|
  n_c (s_callVc (s_callV (pc := 84) (csX12_errs hG) (by decide) okX12_errs nok12 w_1739 w_61 w_1737 (by decide +kernel)) (gk107 hG)) <|
  n_c (s_iret (pc := 87) rfl (by decide +kernel)) <|
  n_e
def fX12_readLine_33 (N : Nat) : Nat → Int32 → nM → Option (Int32 × nM)
  | 0, _, _ => none
  | n + 1, x1, M =>
    (fX12_isWord (19 : Int32) M).bind fun p1 =>
    if p1.1 = 0 then
      if ¬ (p1.2 107 18) = 0 then
        (fX12_errs (1 : Int32) p1.2).bind fun p2 =>
        some (p2.1, p2.2)
      else
        some (x1, p1.2)
    else
      if ¬ x1 = (16 : Int32) then
        (fX12_readChild N p1.2).bind fun p3 =>
        if ¬ p3.1 = (-1 : Int32) then
          let v4 : Int32 := (x1 + (1 : Int32))
          fX12_readLine_33 N n v4 p3.2
        else
          some ((-1 : Int32), p3.2)
      else
        (fX12_errs (3 : Int32) p1.2).bind fun p5 =>
        some (p5.1, p5.2)
set_option maxRecDepth 200000 in
theorem bX12_readLine_33 {l : Launch} {w : nW} (N : Nat) {G : nG} (hG : n_GOK G) : ∀ (n : Nat) (x1 : Int32) (M : nM) (r : Int32 × nM), fX12_readLine_33 N n x1 M = some r → n_At l w 5 mX12_readLine 33 [(0, .ref 107), (1, .int x1)] [] (G, M) (dv_i r.1, (G, r.2)) := by
  intro n
  induction n with
  | zero => intro x1 M r h; cases (show (none : Option (Int32 × nM)) = some r from h)
  | succ n ih =>
    intro x1 M r h
    exact n_seg (fin := n_fin dv_i G) (K := [(33, fun lv st M => n_lC 107 lv 0 (n_lI lv 1 (fun x1 => n_pE st (fX12_readLine_33 N n x1 M))))]) 35 (iX12_readLine N hG) (n_kc (fun lv st M r h => by
      obtain ⟨e0, h1⟩ := n_lC_x h
      obtain ⟨x1, e1, h2⟩ := n_lI_x h1
      obtain ⟨rfl, h3⟩ := n_pE_x h2
      exact n_sub (n_qc e0 (n_qc e1 n_qe)) (ih x1 M r h3)) n_ke) (by rfl) h
def fX12_readLine_2 (N : Nat) : Nat → Int32 → nM → Option (Int32 × nM)
  | 0, _, _ => none
  | n + 1, x1, M =>
    if (12 : Int32) ≤ x1 then
      fX12_readLine_33 N N (0 : Int32) M
    else
      n_chk (n_ib 24 ((12 : Int32) + x1)) <|
      let M1 : nM := n_up M 129 ((12 : Int32) + x1).toNatClampNeg (0 : Int32)
      n_chk (n_ib 12 x1) <|
      let M2 : nM := n_up M1 130 x1.toNatClampNeg (0 : Int32)
      let v3 : Int32 := (x1 + (1 : Int32))
      fX12_readLine_2 N n v3 M2
set_option maxRecDepth 200000 in
theorem bX12_readLine_2 {l : Launch} {w : nW} (N : Nat) {G : nG} (hG : n_GOK G) : ∀ (n : Nat) (x1 : Int32) (M : nM) (r : Int32 × nM), fX12_readLine_2 N n x1 M = some r → n_At l w 5 mX12_readLine 2 [(0, .ref 107), (1, .int x1)] [] (G, M) (dv_i r.1, (G, r.2)) := by
  intro n
  induction n with
  | zero => intro x1 M r h; cases (show (none : Option (Int32 × nM)) = some r from h)
  | succ n ih =>
    intro x1 M r h
    exact n_seg (fin := n_fin dv_i G) (K := [(2, fun lv st M => n_lC 107 lv 0 (n_lI lv 1 (fun x1 => n_pE st (fX12_readLine_2 N n x1 M)))), (33, fun lv st M => n_lC 107 lv 0 (n_lI lv 1 (fun x1 => n_pE st (fX12_readLine_33 N N x1 M))))]) 22 (iX12_readLine N hG) (n_kc (fun lv st M r h => by
      obtain ⟨e0, h1⟩ := n_lC_x h
      obtain ⟨x1, e1, h2⟩ := n_lI_x h1
      obtain ⟨rfl, h3⟩ := n_pE_x h2
      exact n_sub (n_qc e0 (n_qc e1 n_qe)) (ih x1 M r h3)) (n_kc (fun lv st M r h => by
      obtain ⟨e0, h1⟩ := n_lC_x h
      obtain ⟨x1, e1, h2⟩ := n_lI_x h1
      obtain ⟨rfl, h3⟩ := n_pE_x h2
      exact n_sub (n_qc e0 (n_qc e1 n_qe)) (bX12_readLine_33 N hG N x1 M r h3)) n_ke)) (by rfl) h
def fX12_readLine (N : Nat) (M : nM) : Option (Int32 × nM) :=
  fX12_readLine_2 N N (0 : Int32) M
set_option maxRecDepth 200000 in
theorem bX12_readLine_0 {l : Launch} {w : nW} (N : Nat) {G : nG} (hG : n_GOK G) (M : nM) (r : Int32 × nM) (h : fX12_readLine N M = some r) : n_At l w 5 mX12_readLine 0 [(0, .ref 107)] [] (G, M) (dv_i r.1, (G, r.2)) :=
  n_seg (fin := n_fin dv_i G) (K := [(2, fun lv st M => n_lC 107 lv 0 (n_lI lv 1 (fun x1 => n_pE st (fX12_readLine_2 N N x1 M))))]) 5 (iX12_readLine N hG) (n_kc (fun lv st M r h => by
      obtain ⟨e0, h1⟩ := n_lC_x h
      obtain ⟨x1, e1, h2⟩ := n_lI_x h1
      obtain ⟨rfl, h3⟩ := n_pE_x h2
      exact n_sub (n_qc e0 (n_qc e1 n_qe)) (bX12_readLine_2 N hG N x1 M r h3)) n_ke) (by rfl) h
theorem eX12_readLine {l : Launch} {w : nW} (N : Nat) {G : nG} (hG : n_GOK G) (M : nM) (r : Int32 × nM) (h : fX12_readLine N M = some r) : n_Met l w 5 mX12_readLine [.ref 107] (G, M) (dv_i r.1, (G, r.2)) :=
  n_entry (by decide +kernel) rfl (Nat.le_of_ble_eq_true rfl) (n_sub (lv := [(0, .ref 107)]) (n_qc rfl n_qe) (bX12_readLine_0 N hG M r h))
abbrev hX12_readLine (N : Nat) : nF := fun T as M k => n_pC 107 as (fun as => n_pE as ((fX12_readLine N M).bind fun p => k (dv_i p.1) p.2))
theorem csX12_readLine {l : Launch} {w : nW} (N : Nat) {G : nG} (hG : n_GOK G) : n_CS l w 5 mX12_readLine G (hX12_readLine N) := fun T as M k r h => by
  obtain ⟨t0, rfl, h1⟩ := n_pC_x h
  obtain ⟨rfl, hE⟩ := n_pE_x h1
  obtain ⟨p, hp, hk⟩ := Option.bind_eq_some_iff.mp hE
  exact ⟨_, _, eX12_readLine N hG M p hp, hk⟩
/-! ===== SleightHouseModel.isLineWord()Z ===== -/
def mX12_isLineWord : nY := (RX12, yX12_isLineWord, cX12_isLineWord, 1, some .boolean)
theorem okX12_isLineWord : n_MOK mX12_isLineWord 0 := ⟨w_1788, w_151, ⟨by decide +kernel, by decide +kernel, by decide +kernel⟩, by decide⟩
abbrev aX12_isLineWord : List (Nat × nO (Int32 × nM)) := [(0, o_aload 0 1), (1, o_gIc 107 18 4), (4, o_push (.int (2 : Int32)) 5), (5, oc_ne 25 8), (8, o_aload 0 9), (9, o_aload 0 10), (10, o_gIc 107 19 13), (13, o_push (.int (0 : Int32)) 14), (14, o_push (.int (2 : Int32)) 15), (15, o_callVc 107 3 (hX12_isIn) 18), (18, oi_eq 25 21), (21, o_push (.int (1 : Int32)) 22), (22, o_goto 26), (25, o_push (.int (0 : Int32)) 26), (26, o_zret)]
set_option maxRecDepth 200000 in
theorem iX12_isLineWord {l : Launch} {w : nW} {G : nG} (hG : n_GOK G) : n_AllS l w 1 mX12_isLineWord G (n_fin dv_i G) (aX12_isLineWord) :=
  n_c (s_aload_n (pc := 0) (k := 0) (by decide +kernel)) <|
  n_c (s_gIc (s_getI (pc := 1) (ci := 12) (k := 18) (idx := 204) nok12 (by decide) rfl (by decide +kernel) w_1425) (gk107 hG)) <|
  n_c (s_iconst (pc := 4) (n := 2) (by decide +kernel) (by decide +kernel)) <|
  n_c (s_icmp_ne (pc := 5) (off := 20) (by decide +kernel) (by decide +kernel)) <|
  n_c (s_aload_n (pc := 8) (k := 0) (by decide +kernel)) <|
  n_c (s_aload_n (pc := 9) (k := 0) (by decide +kernel)) <|
  n_c (s_gIc (s_getI (pc := 10) (ci := 12) (k := 19) (idx := 207) nok12 (by decide) rfl (by decide +kernel) w_1426) (gk107 hG)) <|
  n_c (s_iconst (pc := 13) (n := 0) (by decide +kernel) (by decide +kernel)) <|
  n_c (s_iconst (pc := 14) (n := 2) (by decide +kernel) (by decide +kernel)) <|
  n_c (s_callVc (s_callV (pc := 15) (csX12_isIn) (by decide) okX12_isIn nok12 w_1659 w_46 w_1657 (by decide +kernel)) (gk107 hG)) <|
  n_c (s_if_eq (pc := 18) (off := 7) (by decide +kernel) (by decide +kernel)) <|
  n_c (s_iconst (pc := 21) (n := 1) (by decide +kernel) (by decide +kernel)) <|
  n_c (s_goto (pc := 22) (off := 4) (by decide +kernel) (by decide +kernel)) <|
  n_c (s_iconst (pc := 25) (n := 0) (by decide +kernel) (by decide +kernel)) <|
  n_c (s_zret (pc := 26) rfl (by decide +kernel)) <|
  n_e
def fX12_isLineWord (M : nM) : Option (Int32 × nM) :=
  if ¬ (M 107 18) = (2 : Int32) then
    some ((0 : Int32), M)
  else
    (fX12_isIn (M 107 19) (0 : Int32) (2 : Int32) M).bind fun p1 =>
    if p1.1 = 0 then
      some ((0 : Int32), p1.2)
    else
      some ((1 : Int32), p1.2)
set_option maxRecDepth 200000 in
theorem bX12_isLineWord_0 {l : Launch} {w : nW} {G : nG} (hG : n_GOK G) (M : nM) (r : Int32 × nM) (h : fX12_isLineWord M = some r) : n_At l w 1 mX12_isLineWord 0 [(0, .ref 107)] [] (G, M) (dv_i r.1, (G, r.2)) :=
  n_seg (fin := n_fin dv_i G) (K := []) 21 (iX12_isLineWord hG) n_ke (by rfl) h
theorem eX12_isLineWord {l : Launch} {w : nW} {G : nG} (hG : n_GOK G) (M : nM) (r : Int32 × nM) (h : fX12_isLineWord M = some r) : n_Met l w 1 mX12_isLineWord [.ref 107] (G, M) (dv_i r.1, (G, r.2)) :=
  n_entry (by decide +kernel) rfl (Nat.le_of_ble_eq_true rfl) (n_sub (lv := [(0, .ref 107)]) (n_qc rfl n_qe) (bX12_isLineWord_0 hG M r h))
abbrev hX12_isLineWord : nF := fun T as M k => n_pC 107 as (fun as => n_pE as ((fX12_isLineWord M).bind fun p => k (dv_i p.1) p.2))
theorem csX12_isLineWord {l : Launch} {w : nW} {G : nG} (hG : n_GOK G) : n_CS l w 1 mX12_isLineWord G (hX12_isLineWord) := fun T as M k r h => by
  obtain ⟨t0, rfl, h1⟩ := n_pC_x h
  obtain ⟨rfl, hE⟩ := n_pE_x h1
  obtain ⟨p, hp, hk⟩ := Option.bind_eq_some_iff.mp hE
  exact ⟨_, _, eX12_isLineWord hG M p hp, hk⟩
/-! ===== SleightHouseModel.canAsk(I)Z ===== -/
def mX12_canAsk : nY := (RX12, yX12_canAsk, cX12_canAsk, 2, some .boolean)
theorem okX12_canAsk : n_MOK mX12_canAsk 1 := ⟨w_1804, w_151, ⟨by decide +kernel, by decide +kernel, by decide +kernel⟩, by decide⟩
abbrev aX12_canAsk : List (Nat × nO (Int32 × nM)) := [(0, o_aload 0 1), (1, o_iload 1 2), (2, o_push (.int (7 : Int32)) 4), (4, o_push (.int (17 : Int32)) 6), (6, o_callVc 107 3 (hX12_isIn) 9), (9, o_zret)]
set_option maxRecDepth 200000 in
theorem iX12_canAsk {l : Launch} {w : nW} {G : nG} (hG : n_GOK G) : n_AllS l w 1 mX12_canAsk G (n_fin dv_i G) (aX12_canAsk) :=
  n_c (s_aload_n (pc := 0) (k := 0) (by decide +kernel)) <|
  n_c (s_iload_n (pc := 1) (k := 1) (by decide +kernel)) <|
  n_c (s_bipush (pc := 2) (n := 7) (by decide +kernel) (by decide +kernel)) <|
  n_c (s_bipush (pc := 4) (n := 17) (by decide +kernel) (by decide +kernel)) <|
  n_c (s_callVc (s_callV (pc := 6) (csX12_isIn) (by decide) okX12_isIn nok12 w_1659 w_46 w_1657 (by decide +kernel)) (gk107 hG)) <|
  n_c (s_zret (pc := 9) rfl (by decide +kernel)) <|
  n_e
def fX12_canAsk (x1 : Int32) (M : nM) : Option (Int32 × nM) :=
  (fX12_isIn x1 (7 : Int32) (17 : Int32) M).bind fun p1 =>
  n_chk (p1.1 == 0 || p1.1 == 1) (some (p1.1, p1.2))
set_option maxRecDepth 200000 in
theorem bX12_canAsk_0 {l : Launch} {w : nW} {G : nG} (hG : n_GOK G) (x1 : Int32) (M : nM) (r : Int32 × nM) (h : fX12_canAsk x1 M = some r) : n_At l w 1 mX12_canAsk 0 [(0, .ref 107), (1, .int x1)] [] (G, M) (dv_i r.1, (G, r.2)) :=
  n_seg (fin := n_fin dv_i G) (K := []) 9 (iX12_canAsk hG) n_ke (by rfl) h
theorem eX12_canAsk {l : Launch} {w : nW} {G : nG} (hG : n_GOK G) (z1 : Int32) (M : nM) (r : Int32 × nM) (h : fX12_canAsk z1 M = some r) : n_Met l w 1 mX12_canAsk [.ref 107, .int z1] (G, M) (dv_i r.1, (G, r.2)) :=
  n_entry (by decide +kernel) rfl (Nat.le_of_ble_eq_true rfl) (n_sub (lv := [(0, .ref 107), (1, .int z1)]) (n_qc rfl (n_qc rfl n_qe)) (bX12_canAsk_0 hG z1 M r h))
abbrev hX12_canAsk : nF := fun T as M k => n_pC 107 as (fun as => n_pI as (fun z1 as => n_pE as ((fX12_canAsk z1 M).bind fun p => k (dv_i p.1) p.2)))
theorem csX12_canAsk {l : Launch} {w : nW} {G : nG} (hG : n_GOK G) : n_CS l w 1 mX12_canAsk G (hX12_canAsk) := fun T as M k r h => by
  obtain ⟨t0, rfl, h1⟩ := n_pC_x h
  obtain ⟨z1, t1, rfl, h2⟩ := n_pI_x h1
  obtain ⟨rfl, hE⟩ := n_pE_x h2
  obtain ⟨p, hp, hk⟩ := Option.bind_eq_some_iff.mp hE
  exact ⟨_, _, eX12_canAsk hG z1 M p hp, hk⟩
/-! ===== SleightHouseModel.emits(II)V ===== -/
def mX12_emits : nY := (RX12, yX12_emits, cX12_emits, 3, none)
theorem okX12_emits : n_MOK mX12_emits 2 := ⟨w_1808, w_151, ⟨by decide +kernel, by decide +kernel, by decide +kernel⟩, by decide⟩
abbrev aX12_emits : List (Nat × nO (Unit × nM)) := [(0, o_aload 0 1), (1, o_gRc 107 124 4), (4, o_push (.int (800 : Int32)) 7), (7, o_aload 0 8), (8, o_gIc 107 29 11), (11, o_iadd 12), (12, o_iload 1 13), (13, o_iastc 124 1200 14), (14, o_aload 0 15), (15, o_gRc 107 125 18), (18, o_push (.int (800 : Int32)) 21), (21, o_aload 0 22), (22, o_gIc 107 29 25), (25, o_iadd 26), (26, o_iload 2 27), (27, o_iastc 125 1200 28), (28, o_aload 0 29), (29, o_aload 0 30), (30, o_gIc 107 29 33), (33, o_push (.int (1 : Int32)) 34), (34, o_iadd 35), (35, o_pIc 107 29 38), (38, o_vret)]
set_option maxRecDepth 200000 in
theorem iX12_emits {l : Launch} {w : nW} {G : nG} (hG : n_GOK G) : n_AllS l w 0 mX12_emits G (n_fin dv_v G) (aX12_emits) :=
  n_c (s_aload_n (pc := 0) (k := 0) (by decide +kernel)) <|
  n_c (s_gRc (s_getR (pc := 1) (ci := 12) (k := 26) (idx := 58) nok12 (by decide) rfl (by decide +kernel) w_1433) (gk107 hG) (gm107_26 hG)) <|
  n_c (s_sipush (pc := 4) (n := 800) (by decide +kernel) (by decide +kernel)) <|
  n_c (s_aload_n (pc := 7) (k := 0) (by decide +kernel)) <|
  n_c (s_gIc (s_getI (pc := 8) (ci := 12) (k := 29) (idx := 229) nok12 (by decide) rfl (by decide +kernel) w_1436) (gk107 hG)) <|
  n_c (s_iadd (pc := 11) (by decide +kernel)) <|
  n_c (s_iload_n (pc := 12) (k := 1) (by decide +kernel)) <|
  n_c (s_iastc (s_iastore (pc := 13) (by decide +kernel)) (gk124 hG) (gl124 hG)) <|
  n_c (s_aload_n (pc := 14) (k := 0) (by decide +kernel)) <|
  n_c (s_gRc (s_getR (pc := 15) (ci := 12) (k := 27) (idx := 61) nok12 (by decide) rfl (by decide +kernel) w_1434) (gk107 hG) (gm107_27 hG)) <|
  n_c (s_sipush (pc := 18) (n := 800) (by decide +kernel) (by decide +kernel)) <|
  n_c (s_aload_n (pc := 21) (k := 0) (by decide +kernel)) <|
  n_c (s_gIc (s_getI (pc := 22) (ci := 12) (k := 29) (idx := 229) nok12 (by decide) rfl (by decide +kernel) w_1436) (gk107 hG)) <|
  n_c (s_iadd (pc := 25) (by decide +kernel)) <|
  n_c (s_iload_n (pc := 26) (k := 2) (by decide +kernel)) <|
  n_c (s_iastc (s_iastore (pc := 27) (by decide +kernel)) (gk125 hG) (gl125 hG)) <|
  n_c (s_aload_n (pc := 28) (k := 0) (by decide +kernel)) <|
  n_c (s_aload_n (pc := 29) (k := 0) (by decide +kernel)) <|
  n_c (s_gIc (s_getI (pc := 30) (ci := 12) (k := 29) (idx := 229) nok12 (by decide) rfl (by decide +kernel) w_1436) (gk107 hG)) <|
  n_c (s_iconst (pc := 33) (n := 1) (by decide +kernel) (by decide +kernel)) <|
  n_c (s_iadd (pc := 34) (by decide +kernel)) <|
  n_c (s_pIc (s_putI (pc := 35) (ci := 12) (k := 29) (idx := 229) nok12 (by decide) rfl rfl (by decide +kernel) w_1436) (gk107 hG)) <|
  n_c (s_vret (pc := 38) rfl (by decide +kernel)) <|
  n_e
def fX12_emits (x1 : Int32) (x2 : Int32) (M : nM) : Option (Unit × nM) :=
  n_chk (n_ib 1200 ((800 : Int32) + (M 107 29))) <|
  let M1 : nM := n_up M 124 ((800 : Int32) + (M 107 29)).toNatClampNeg x1
  n_chk (n_ib 1200 ((800 : Int32) + (M1 107 29))) <|
  let M2 : nM := n_up M1 125 ((800 : Int32) + (M1 107 29)).toNatClampNeg x2
  let M3 : nM := n_up M2 107 29 ((M2 107 29) + (1 : Int32))
  some ((), M3)
set_option maxRecDepth 200000 in
theorem bX12_emits_0 {l : Launch} {w : nW} {G : nG} (hG : n_GOK G) (x1 : Int32) (x2 : Int32) (M : nM) (r : Unit × nM) (h : fX12_emits x1 x2 M = some r) : n_At l w 0 mX12_emits 0 [(0, .ref 107), (1, .int x1), (2, .int x2)] [] (G, M) (dv_v r.1, (G, r.2)) :=
  n_seg (fin := n_fin dv_v G) (K := []) 26 (iX12_emits hG) n_ke (by rfl) h
theorem eX12_emits {l : Launch} {w : nW} {G : nG} (hG : n_GOK G) (z1 : Int32) (z2 : Int32) (M : nM) (r : Unit × nM) (h : fX12_emits z1 z2 M = some r) : n_Met l w 0 mX12_emits [.ref 107, .int z1, .int z2] (G, M) (dv_v r.1, (G, r.2)) :=
  n_entry (by decide +kernel) rfl (Nat.le_of_ble_eq_true rfl) (n_sub (lv := [(0, .ref 107), (1, .int z1), (2, .int z2)]) (n_qc rfl (n_qc rfl (n_qc rfl n_qe))) (bX12_emits_0 hG z1 z2 M r h))
abbrev hX12_emits : nF := fun T as M k => n_pC 107 as (fun as => n_pI as (fun z1 as => n_pI as (fun z2 as => n_pE as ((fX12_emits z1 z2 M).bind fun p => k (dv_v p.1) p.2))))
theorem csX12_emits {l : Launch} {w : nW} {G : nG} (hG : n_GOK G) : n_CS l w 0 mX12_emits G (hX12_emits) := fun T as M k r h => by
  obtain ⟨t0, rfl, h1⟩ := n_pC_x h
  obtain ⟨z1, t1, rfl, h2⟩ := n_pI_x h1
  obtain ⟨z2, t2, rfl, h3⟩ := n_pI_x h2
  obtain ⟨rfl, hE⟩ := n_pE_x h3
  obtain ⟨p, hp, hk⟩ := Option.bind_eq_some_iff.mp hE
  exact ⟨_, _, eX12_emits hG z1 z2 M p hp, hk⟩
/-! ===== SleightHouseModel.readUnit()I ===== -/
def mX12_readUnit : nY := (RX12, yX12_readUnit, cX12_readUnit, 2, some .int)
theorem okX12_readUnit : n_MOK mX12_readUnit 0 := ⟨w_1800, w_151, ⟨by decide +kernel, by decide +kernel, by decide +kernel⟩, by decide⟩
abbrev aX12_readUnit (N : Nat) : List (Nat × nO (Int32 × nM)) := [(0, o_aload 0 1), (1, o_gIc 107 18 4), (4, o_push (.int (2 : Int32)) 5), (5, oc_ne 23 8), (8, o_aload 0 9), (9, o_aload 0 10), (10, o_gIc 107 19 13), (13, o_callVc 107 1 (hX12_canAsk) 16), (16, oi_eq 23 19), (19, o_push (.int (1 : Int32)) 20), (20, o_goto 24), (23, o_push (.int (0 : Int32)) 24), (24, o_istore 2 1 25), (25, o_iload 1 26), (26, oi_ne 43 29), (29, o_aload 0 30), (30, o_gIc 107 18 33), (33, o_push (.int (3 : Int32)) 34), (34, oc_eq 43 37), (37, o_aload 0 38), (38, o_push (.int (1 : Int32)) 39), (39, o_callVc 107 1 (hX12_errs) 42), (42, o_iret), (43, o_aload 0 44), (44, o_iload 1 45), (45, oi_eq 52 48), (48, o_push (.int (1 : Int32)) 49), (49, o_goto 53), (52, o_push (.int (0 : Int32)) 53), (53, o_iload 1 54), (54, oi_eq 67 57), (57, o_aload 0 58), (58, o_gIc 107 19 61), (61, o_push (.int (7 : Int32)) 63), (63, o_isub 64), (64, o_goto 71), (67, o_aload 0 68), (68, o_gIc 107 19 71), (71, o_callVc 107 2 (hX12_emits) 74), (74, o_aload 0 75), (75, o_callVc 107 0 (hX12_reads N) 78), (78, o_push (.int (0 : Int32)) 79), (79, o_iret)]
set_option maxRecDepth 200000 in
theorem iX12_readUnit {l : Launch} {w : nW} (N : Nat) {G : nG} (hG : n_GOK G) : n_AllS l w 3 mX12_readUnit G (n_fin dv_i G) (aX12_readUnit N) :=
  n_c (s_aload_n (pc := 0) (k := 0) (by decide +kernel)) <|
  n_c (s_gIc (s_getI (pc := 1) (ci := 12) (k := 18) (idx := 204) nok12 (by decide) rfl (by decide +kernel) w_1425) (gk107 hG)) <|
  n_c (s_iconst (pc := 4) (n := 2) (by decide +kernel) (by decide +kernel)) <|
  n_c (s_icmp_ne (pc := 5) (off := 18) (by decide +kernel) (by decide +kernel)) <|
  n_c (s_aload_n (pc := 8) (k := 0) (by decide +kernel)) <|
  n_c (s_aload_n (pc := 9) (k := 0) (by decide +kernel)) <|
  n_c (s_gIc (s_getI (pc := 10) (ci := 12) (k := 19) (idx := 207) nok12 (by decide) rfl (by decide +kernel) w_1426) (gk107 hG)) <|
  n_c (s_callVc (s_callV (pc := 13) (csX12_canAsk hG) (by decide) okX12_canAsk nok12 w_1803 w_77 w_1801 (by decide +kernel)) (gk107 hG)) <|
  n_c (s_if_eq (pc := 16) (off := 7) (by decide +kernel) (by decide +kernel)) <|
  n_c (s_iconst (pc := 19) (n := 1) (by decide +kernel) (by decide +kernel)) <|
  n_c (s_goto (pc := 20) (off := 4) (by decide +kernel) (by decide +kernel)) <|
  n_c (s_iconst (pc := 23) (n := 0) (by decide +kernel) (by decide +kernel)) <|
  n_c (s_istore_n (pc := 24) (k := 1) (by decide +kernel)) <|
  n_c (s_iload_n (pc := 25) (k := 1) (by decide +kernel)) <|
  n_c (s_if_ne (pc := 26) (off := 17) (by decide +kernel) (by decide +kernel)) <|
  n_c (s_aload_n (pc := 29) (k := 0) (by decide +kernel)) <|
  n_c (s_gIc (s_getI (pc := 30) (ci := 12) (k := 18) (idx := 204) nok12 (by decide) rfl (by decide +kernel) w_1425) (gk107 hG)) <|
  n_c (s_iconst (pc := 33) (n := 3) (by decide +kernel) (by decide +kernel)) <|
  n_c (s_icmp_eq (pc := 34) (off := 9) (by decide +kernel) (by decide +kernel)) <|
  n_c (s_aload_n (pc := 37) (k := 0) (by decide +kernel)) <|
  n_c (s_iconst (pc := 38) (n := 1) (by decide +kernel) (by decide +kernel)) <|
  n_c (s_callVc (s_callV (pc := 39) (csX12_errs hG) (by decide) okX12_errs nok12 w_1739 w_61 w_1737 (by decide +kernel)) (gk107 hG)) <|
  n_c (s_iret (pc := 42) rfl (by decide +kernel)) <|
  n_c (s_aload_n (pc := 43) (k := 0) (by decide +kernel)) <|
  n_c (s_iload_n (pc := 44) (k := 1) (by decide +kernel)) <|
  n_c (s_if_eq (pc := 45) (off := 7) (by decide +kernel) (by decide +kernel)) <|
  n_c (s_iconst (pc := 48) (n := 1) (by decide +kernel) (by decide +kernel)) <|
  n_c (s_goto (pc := 49) (off := 4) (by decide +kernel) (by decide +kernel)) <|
  n_c (s_iconst (pc := 52) (n := 0) (by decide +kernel) (by decide +kernel)) <|
  n_c (s_iload_n (pc := 53) (k := 1) (by decide +kernel)) <|
  n_c (s_if_eq (pc := 54) (off := 13) (by decide +kernel) (by decide +kernel)) <|
  n_c (s_aload_n (pc := 57) (k := 0) (by decide +kernel)) <|
  n_c (s_gIc (s_getI (pc := 58) (ci := 12) (k := 19) (idx := 207) nok12 (by decide) rfl (by decide +kernel) w_1426) (gk107 hG)) <|
  n_c (s_bipush (pc := 61) (n := 7) (by decide +kernel) (by decide +kernel)) <|
  n_c (s_isub (pc := 63) (by decide +kernel)) <|
  n_c (s_goto (pc := 64) (off := 7) (by decide +kernel) (by decide +kernel)) <|
  n_c (s_aload_n (pc := 67) (k := 0) (by decide +kernel)) <|
  n_c (s_gIc (s_getI (pc := 68) (ci := 12) (k := 19) (idx := 207) nok12 (by decide) rfl (by decide +kernel) w_1426) (gk107 hG)) <|
  n_c (s_callVc (s_callV (pc := 71) (csX12_emits hG) (by decide) okX12_emits nok12 w_1807 w_78 w_1805 (by decide +kernel)) (gk107 hG)) <|
  n_c (s_aload_n (pc := 74) (k := 0) (by decide +kernel)) <|
  n_c (s_callVc (s_callV (pc := 75) (csX12_reads N hG) (by decide) okX12_reads nok12 w_1707 w_53 w_1705 (by decide +kernel)) (gk107 hG)) <|
  n_c (s_iconst (pc := 78) (n := 0) (by decide +kernel) (by decide +kernel)) <|
  n_c (s_iret (pc := 79) rfl (by decide +kernel)) <|
  n_e
def fX12_readUnit_71 (N : Nat) (s0 : Int32) (s1 : Int32) (M : nM) : Option (Int32 × nM) :=
  (fX12_emits s1 s0 M).bind fun p1 =>
  (fX12_reads_all N p1.2).bind fun p2 =>
  some ((0 : Int32), p2.2)
set_option maxRecDepth 200000 in
theorem bX12_readUnit_71 {l : Launch} {w : nW} (N : Nat) {G : nG} (hG : n_GOK G) (s0 : Int32) (s1 : Int32) (M : nM) (r : Int32 × nM) (h : fX12_readUnit_71 N s0 s1 M = some r) : n_At l w 3 mX12_readUnit 71 [(0, .ref 107)] [.int s0, .int s1, .ref 107] (G, M) (dv_i r.1, (G, r.2)) :=
  n_seg (fin := n_fin dv_i G) (K := []) 8 (iX12_readUnit N hG) n_ke (by rfl) h
def fX12_readUnit_53 (N : Nat) (x1 : Int32) (s0 : Int32) (M : nM) : Option (Int32 × nM) :=
  if x1 = 0 then
    fX12_readUnit_71 N (M 107 19) s0 M
  else
    fX12_readUnit_71 N ((M 107 19) - (7 : Int32)) s0 M
set_option maxRecDepth 200000 in
theorem bX12_readUnit_53 {l : Launch} {w : nW} (N : Nat) {G : nG} (hG : n_GOK G) (x1 : Int32) (s0 : Int32) (M : nM) (r : Int32 × nM) (h : fX12_readUnit_53 N x1 s0 M = some r) : n_At l w 3 mX12_readUnit 53 [(0, .ref 107), (1, .int x1)] [.int s0, .ref 107] (G, M) (dv_i r.1, (G, r.2)) :=
  n_seg (fin := n_fin dv_i G) (K := [(71, fun lv st M => n_lC 107 lv 0 (n_pI st (fun s0 st => n_pI st (fun s1 st => n_pC 107 st (fun st => n_pE st (fX12_readUnit_71 N s0 s1 M))))))]) 12 (iX12_readUnit N hG) (n_kc (fun lv st M r h => by
      obtain ⟨e0, h1⟩ := n_lC_x h
      obtain ⟨s0, t0, rfl, h2⟩ := n_pI_x h1
      obtain ⟨s1, t1, rfl, h3⟩ := n_pI_x h2
      obtain ⟨t2, rfl, h4⟩ := n_pC_x h3
      obtain ⟨rfl, h5⟩ := n_pE_x h4
      exact n_sub (n_qc e0 n_qe) (bX12_readUnit_71 N hG s0 s1 M r h5)) n_ke) (by rfl) h
def fX12_readUnit_43 (N : Nat) (x1 : Int32) (M : nM) : Option (Int32 × nM) :=
  if x1 = 0 then
    fX12_readUnit_53 N x1 (0 : Int32) M
  else
    fX12_readUnit_53 N x1 (1 : Int32) M
set_option maxRecDepth 200000 in
theorem bX12_readUnit_43 {l : Launch} {w : nW} (N : Nat) {G : nG} (hG : n_GOK G) (x1 : Int32) (M : nM) (r : Int32 × nM) (h : fX12_readUnit_43 N x1 M = some r) : n_At l w 3 mX12_readUnit 43 [(0, .ref 107), (1, .int x1)] [] (G, M) (dv_i r.1, (G, r.2)) :=
  n_seg (fin := n_fin dv_i G) (K := [(53, fun lv st M => n_lC 107 lv 0 (n_lI lv 1 (fun x1 => n_pI st (fun s0 st => n_pC 107 st (fun st => n_pE st (fX12_readUnit_53 N x1 s0 M))))))]) 9 (iX12_readUnit N hG) (n_kc (fun lv st M r h => by
      obtain ⟨e0, h1⟩ := n_lC_x h
      obtain ⟨x1, e1, h2⟩ := n_lI_x h1
      obtain ⟨s0, t0, rfl, h3⟩ := n_pI_x h2
      obtain ⟨t1, rfl, h4⟩ := n_pC_x h3
      obtain ⟨rfl, h5⟩ := n_pE_x h4
      exact n_sub (n_qc e0 (n_qc e1 n_qe)) (bX12_readUnit_53 N hG x1 s0 M r h5)) n_ke) (by rfl) h
def fX12_readUnit_24 (N : Nat) (s0 : Int32) (M : nM) : Option (Int32 × nM) :=
  if ¬ s0 = 0 then
    fX12_readUnit_43 N s0 M
  else
    if (M 107 18) = (3 : Int32) then
      fX12_readUnit_43 N s0 M
    else
      (fX12_errs (1 : Int32) M).bind fun p1 =>
      some (p1.1, p1.2)
set_option maxRecDepth 200000 in
theorem bX12_readUnit_24 {l : Launch} {w : nW} (N : Nat) {G : nG} (hG : n_GOK G) (s0 : Int32) (M : nM) (r : Int32 × nM) (h : fX12_readUnit_24 N s0 M = some r) : n_At l w 3 mX12_readUnit 24 [(0, .ref 107)] [.int s0] (G, M) (dv_i r.1, (G, r.2)) :=
  n_seg (fin := n_fin dv_i G) (K := [(43, fun lv st M => n_lC 107 lv 0 (n_lI lv 1 (fun x1 => n_pE st (fX12_readUnit_43 N x1 M))))]) 14 (iX12_readUnit N hG) (n_kc (fun lv st M r h => by
      obtain ⟨e0, h1⟩ := n_lC_x h
      obtain ⟨x1, e1, h2⟩ := n_lI_x h1
      obtain ⟨rfl, h3⟩ := n_pE_x h2
      exact n_sub (n_qc e0 (n_qc e1 n_qe)) (bX12_readUnit_43 N hG x1 M r h3)) n_ke) (by rfl) h
def fX12_readUnit_23 (N : Nat) (M : nM) : Option (Int32 × nM) :=
  fX12_readUnit_24 N (0 : Int32) M
set_option maxRecDepth 200000 in
theorem bX12_readUnit_23 {l : Launch} {w : nW} (N : Nat) {G : nG} (hG : n_GOK G) (M : nM) (r : Int32 × nM) (h : fX12_readUnit_23 N M = some r) : n_At l w 3 mX12_readUnit 23 [(0, .ref 107)] [] (G, M) (dv_i r.1, (G, r.2)) :=
  n_seg (fin := n_fin dv_i G) (K := [(24, fun lv st M => n_lC 107 lv 0 (n_pI st (fun s0 st => n_pE st (fX12_readUnit_24 N s0 M))))]) 4 (iX12_readUnit N hG) (n_kc (fun lv st M r h => by
      obtain ⟨e0, h1⟩ := n_lC_x h
      obtain ⟨s0, t0, rfl, h2⟩ := n_pI_x h1
      obtain ⟨rfl, h3⟩ := n_pE_x h2
      exact n_sub (n_qc e0 n_qe) (bX12_readUnit_24 N hG s0 M r h3)) n_ke) (by rfl) h
def fX12_readUnit (N : Nat) (M : nM) : Option (Int32 × nM) :=
  if ¬ (M 107 18) = (2 : Int32) then
    fX12_readUnit_23 N M
  else
    (fX12_canAsk (M 107 19) M).bind fun p1 =>
    if p1.1 = 0 then
      fX12_readUnit_23 N p1.2
    else
      fX12_readUnit_24 N (1 : Int32) p1.2
set_option maxRecDepth 200000 in
theorem bX12_readUnit_0 {l : Launch} {w : nW} (N : Nat) {G : nG} (hG : n_GOK G) (M : nM) (r : Int32 × nM) (h : fX12_readUnit N M = some r) : n_At l w 3 mX12_readUnit 0 [(0, .ref 107)] [] (G, M) (dv_i r.1, (G, r.2)) :=
  n_seg (fin := n_fin dv_i G) (K := [(23, fun lv st M => n_lC 107 lv 0 (n_pE st (fX12_readUnit_23 N M))), (24, fun lv st M => n_lC 107 lv 0 (n_pI st (fun s0 st => n_pE st (fX12_readUnit_24 N s0 M))))]) 14 (iX12_readUnit N hG) (n_kc (fun lv st M r h => by
      obtain ⟨e0, h1⟩ := n_lC_x h
      obtain ⟨rfl, h2⟩ := n_pE_x h1
      exact n_sub (n_qc e0 n_qe) (bX12_readUnit_23 N hG M r h2)) (n_kc (fun lv st M r h => by
      obtain ⟨e0, h1⟩ := n_lC_x h
      obtain ⟨s0, t0, rfl, h2⟩ := n_pI_x h1
      obtain ⟨rfl, h3⟩ := n_pE_x h2
      exact n_sub (n_qc e0 n_qe) (bX12_readUnit_24 N hG s0 M r h3)) n_ke)) (by rfl) h
theorem eX12_readUnit {l : Launch} {w : nW} (N : Nat) {G : nG} (hG : n_GOK G) (M : nM) (r : Int32 × nM) (h : fX12_readUnit N M = some r) : n_Met l w 3 mX12_readUnit [.ref 107] (G, M) (dv_i r.1, (G, r.2)) :=
  n_entry (by decide +kernel) rfl (Nat.le_of_ble_eq_true rfl) (n_sub (lv := [(0, .ref 107)]) (n_qc rfl n_qe) (bX12_readUnit_0 N hG M r h))
abbrev hX12_readUnit (N : Nat) : nF := fun T as M k => n_pC 107 as (fun as => n_pE as ((fX12_readUnit N M).bind fun p => k (dv_i p.1) p.2))
theorem csX12_readUnit {l : Launch} {w : nW} (N : Nat) {G : nG} (hG : n_GOK G) : n_CS l w 3 mX12_readUnit G (hX12_readUnit N) := fun T as M k r h => by
  obtain ⟨t0, rfl, h1⟩ := n_pC_x h
  obtain ⟨rfl, hE⟩ := n_pE_x h1
  obtain ⟨p, hp, hk⟩ := Option.bind_eq_some_iff.mp hE
  exact ⟨_, _, eX12_readUnit N hG M p hp, hk⟩
/-! ===== SleightHouseModel.readProduct()I ===== -/
def mX12_readProduct : nY := (RX12, yX12_readProduct, cX12_readProduct, 2, some .int)
theorem okX12_readProduct : n_MOK mX12_readProduct 0 := ⟨w_1796, w_151, ⟨by decide +kernel, by decide +kernel, by decide +kernel⟩, by decide⟩
abbrev aX12_readProduct (N : Nat) : List (Nat × nO (Int32 × nM)) := [(0, o_aload 0 1), (1, o_callVc 107 0 (hX12_readUnit N) 4), (4, o_push (.int (-1 : Int32)) 5), (5, oc_ne 10 8), (8, o_push (.int (-1 : Int32)) 9), (9, o_iret), (10, o_aload 0 11), (11, o_push (.int (42 : Int32)) 13), (13, o_callVc 107 1 (hX12_isSign) 16), (16, oi_ne 28 19), (19, o_aload 0 20), (20, o_push (.int (47 : Int32)) 22), (22, o_callVc 107 1 (hX12_isSign) 25), (25, oi_eq 101 28), (28, o_aload 0 29), (29, o_push (.int (42 : Int32)) 31), (31, o_callVc 107 1 (hX12_isSign) 34), (34, o_istore 2 1 35), (35, o_aload 0 36), (36, o_callVc 107 0 (hX12_reads N) 39), (39, o_iload 1 40), (40, oi_ne 57 43), (43, o_aload 0 44), (44, o_gIc 107 18 47), (47, o_push (.int (3 : Int32)) 48), (48, oc_eq 57 51), (51, o_aload 0 52), (52, o_push (.int (1 : Int32)) 53), (53, o_callVc 107 1 (hX12_errs) 56), (56, o_iret), (57, o_iload 1 58), (58, oi_ne 74 61), (61, o_aload 0 62), (62, o_gIc 107 19 65), (65, oi_ne 74 68), (68, o_aload 0 69), (69, o_push (.int (2 : Int32)) 70), (70, o_callVc 107 1 (hX12_errs) 73), (73, o_iret), (74, o_aload 0 75), (75, o_callVc 107 0 (hX12_readUnit N) 78), (78, o_push (.int (-1 : Int32)) 79), (79, oc_ne 84 82), (82, o_push (.int (-1 : Int32)) 83), (83, o_iret), (84, o_aload 0 85), (85, o_iload 1 86), (86, oi_eq 93 89), (89, o_push (.int (4 : Int32)) 90), (90, o_goto 94), (93, o_push (.int (5 : Int32)) 94), (94, o_push (.int (0 : Int32)) 95), (95, o_callVc 107 2 (hX12_emits) 98), (98, o_goto 10), (101, o_push (.int (0 : Int32)) 102), (102, o_iret)]
set_option maxRecDepth 200000 in
theorem iX12_readProduct {l : Launch} {w : nW} (N : Nat) {G : nG} (hG : n_GOK G) : n_AllS l w 4 mX12_readProduct G (n_fin dv_i G) (aX12_readProduct N) :=
  n_c (s_aload_n (pc := 0) (k := 0) (by decide +kernel)) <|
  n_c (s_callVc (s_callV (pc := 1) (csX12_readUnit N hG) (by decide) okX12_readUnit nok12 w_1799 w_76 w_1797 (by decide +kernel)) (gk107 hG)) <|
  n_c (s_iconst (pc := 4) (n := -1) (by decide +kernel) (by decide +kernel)) <|
  n_c (s_icmp_ne (pc := 5) (off := 5) (by decide +kernel) (by decide +kernel)) <|
  n_c (s_iconst (pc := 8) (n := -1) (by decide +kernel) (by decide +kernel)) <|
  n_c (s_iret (pc := 9) rfl (by decide +kernel)) <|
  n_c (s_aload_n (pc := 10) (k := 0) (by decide +kernel)) <|
  n_c (s_bipush (pc := 11) (n := 42) (by decide +kernel) (by decide +kernel)) <|
  n_c (s_callVc (s_callV (pc := 13) (csX12_isSign hG) (by decide) okX12_isSign nok12 w_1759 w_66 w_1757 (by decide +kernel)) (gk107 hG)) <|
  n_c (s_if_ne (pc := 16) (off := 12) (by decide +kernel) (by decide +kernel)) <|
  n_c (s_aload_n (pc := 19) (k := 0) (by decide +kernel)) <|
  n_c (s_bipush (pc := 20) (n := 47) (by decide +kernel) (by decide +kernel)) <|
  n_c (s_callVc (s_callV (pc := 22) (csX12_isSign hG) (by decide) okX12_isSign nok12 w_1759 w_66 w_1757 (by decide +kernel)) (gk107 hG)) <|
  n_c (s_if_eq (pc := 25) (off := 76) (by decide +kernel) (by decide +kernel)) <|
  n_c (s_aload_n (pc := 28) (k := 0) (by decide +kernel)) <|
  n_c (s_bipush (pc := 29) (n := 42) (by decide +kernel) (by decide +kernel)) <|
  n_c (s_callVc (s_callV (pc := 31) (csX12_isSign hG) (by decide) okX12_isSign nok12 w_1759 w_66 w_1757 (by decide +kernel)) (gk107 hG)) <|
  n_c (s_istore_n (pc := 34) (k := 1) (by decide +kernel)) <|
  n_c (s_aload_n (pc := 35) (k := 0) (by decide +kernel)) <|
  n_c (s_callVc (s_callV (pc := 36) (csX12_reads N hG) (by decide) okX12_reads nok12 w_1707 w_53 w_1705 (by decide +kernel)) (gk107 hG)) <|
  n_c (s_iload_n (pc := 39) (k := 1) (by decide +kernel)) <|
  n_c (s_if_ne (pc := 40) (off := 17) (by decide +kernel) (by decide +kernel)) <|
  n_c (s_aload_n (pc := 43) (k := 0) (by decide +kernel)) <|
  n_c (s_gIc (s_getI (pc := 44) (ci := 12) (k := 18) (idx := 204) nok12 (by decide) rfl (by decide +kernel) w_1425) (gk107 hG)) <|
  n_c (s_iconst (pc := 47) (n := 3) (by decide +kernel) (by decide +kernel)) <|
  n_c (s_icmp_eq (pc := 48) (off := 9) (by decide +kernel) (by decide +kernel)) <|
  n_c (s_aload_n (pc := 51) (k := 0) (by decide +kernel)) <|
  n_c (s_iconst (pc := 52) (n := 1) (by decide +kernel) (by decide +kernel)) <|
  n_c (s_callVc (s_callV (pc := 53) (csX12_errs hG) (by decide) okX12_errs nok12 w_1739 w_61 w_1737 (by decide +kernel)) (gk107 hG)) <|
  n_c (s_iret (pc := 56) rfl (by decide +kernel)) <|
  n_c (s_iload_n (pc := 57) (k := 1) (by decide +kernel)) <|
  n_c (s_if_ne (pc := 58) (off := 16) (by decide +kernel) (by decide +kernel)) <|
  n_c (s_aload_n (pc := 61) (k := 0) (by decide +kernel)) <|
  n_c (s_gIc (s_getI (pc := 62) (ci := 12) (k := 19) (idx := 207) nok12 (by decide) rfl (by decide +kernel) w_1426) (gk107 hG)) <|
  n_c (s_if_ne (pc := 65) (off := 9) (by decide +kernel) (by decide +kernel)) <|
  n_c (s_aload_n (pc := 68) (k := 0) (by decide +kernel)) <|
  n_c (s_iconst (pc := 69) (n := 2) (by decide +kernel) (by decide +kernel)) <|
  n_c (s_callVc (s_callV (pc := 70) (csX12_errs hG) (by decide) okX12_errs nok12 w_1739 w_61 w_1737 (by decide +kernel)) (gk107 hG)) <|
  n_c (s_iret (pc := 73) rfl (by decide +kernel)) <|
  n_c (s_aload_n (pc := 74) (k := 0) (by decide +kernel)) <|
  n_c (s_callVc (s_callV (pc := 75) (csX12_readUnit N hG) (by decide) okX12_readUnit nok12 w_1799 w_76 w_1797 (by decide +kernel)) (gk107 hG)) <|
  n_c (s_iconst (pc := 78) (n := -1) (by decide +kernel) (by decide +kernel)) <|
  n_c (s_icmp_ne (pc := 79) (off := 5) (by decide +kernel) (by decide +kernel)) <|
  n_c (s_iconst (pc := 82) (n := -1) (by decide +kernel) (by decide +kernel)) <|
  n_c (s_iret (pc := 83) rfl (by decide +kernel)) <|
  n_c (s_aload_n (pc := 84) (k := 0) (by decide +kernel)) <|
  n_c (s_iload_n (pc := 85) (k := 1) (by decide +kernel)) <|
  n_c (s_if_eq (pc := 86) (off := 7) (by decide +kernel) (by decide +kernel)) <|
  n_c (s_iconst (pc := 89) (n := 4) (by decide +kernel) (by decide +kernel)) <|
  n_c (s_goto (pc := 90) (off := 4) (by decide +kernel) (by decide +kernel)) <|
  n_c (s_iconst (pc := 93) (n := 5) (by decide +kernel) (by decide +kernel)) <|
  n_c (s_iconst (pc := 94) (n := 0) (by decide +kernel) (by decide +kernel)) <|
  n_c (s_callVc (s_callV (pc := 95) (csX12_emits hG) (by decide) okX12_emits nok12 w_1807 w_78 w_1805 (by decide +kernel)) (gk107 hG)) <|
  n_c (s_goto (pc := 98) (off := -88) (by decide +kernel) (by decide +kernel)) <|
  n_c (s_iconst (pc := 101) (n := 0) (by decide +kernel) (by decide +kernel)) <|
  n_c (s_iret (pc := 102) rfl (by decide +kernel)) <|
  n_e
def fX12_readProduct_94 (N : Nat) (k10 : nM → Option (Int32 × nM)) (s0 : Int32) (M : nM) : Option (Int32 × nM) :=
  (fX12_emits s0 (0 : Int32) M).bind fun p1 =>
  k10 p1.2
set_option maxRecDepth 200000 in
theorem bX12_readProduct_94 {l : Launch} {w : nW} (N : Nat) {G : nG} (hG : n_GOK G) (k10 : nM → Option (Int32 × nM)) (hk10 : ∀ (M : nM) (r : Int32 × nM), k10 M = some r → n_At l w 4 mX12_readProduct 10 [(0, .ref 107)] [] (G, M) (dv_i r.1, (G, r.2))) (s0 : Int32) (M : nM) (r : Int32 × nM) (h : fX12_readProduct_94 N k10 s0 M = some r) : n_At l w 4 mX12_readProduct 94 [(0, .ref 107)] [.int s0, .ref 107] (G, M) (dv_i r.1, (G, r.2)) :=
  n_seg (fin := n_fin dv_i G) (K := [(10, fun lv st M => n_lC 107 lv 0 (n_pE st (k10 M)))]) 6 (iX12_readProduct N hG) (n_kc (fun lv st M r h => by
      obtain ⟨e0, h1⟩ := n_lC_x h
      obtain ⟨rfl, h2⟩ := n_pE_x h1
      exact n_sub (n_qc e0 n_qe) (hk10 M r h2)) n_ke) (by rfl) h
def fX12_readProduct_74 (N : Nat) (k10 : nM → Option (Int32 × nM)) (x1 : Int32) (M : nM) : Option (Int32 × nM) :=
  (fX12_readUnit N M).bind fun p1 =>
  if ¬ p1.1 = (-1 : Int32) then
    if x1 = 0 then
      fX12_readProduct_94 N k10 (5 : Int32) p1.2
    else
      fX12_readProduct_94 N k10 (4 : Int32) p1.2
  else
    some ((-1 : Int32), p1.2)
set_option maxRecDepth 200000 in
theorem bX12_readProduct_74 {l : Launch} {w : nW} (N : Nat) {G : nG} (hG : n_GOK G) (k10 : nM → Option (Int32 × nM)) (hk10 : ∀ (M : nM) (r : Int32 × nM), k10 M = some r → n_At l w 4 mX12_readProduct 10 [(0, .ref 107)] [] (G, M) (dv_i r.1, (G, r.2))) (x1 : Int32) (M : nM) (r : Int32 × nM) (h : fX12_readProduct_74 N k10 x1 M = some r) : n_At l w 4 mX12_readProduct 74 [(0, .ref 107), (1, .int x1)] [] (G, M) (dv_i r.1, (G, r.2)) :=
  n_seg (fin := n_fin dv_i G) (K := [(94, fun lv st M => n_lC 107 lv 0 (n_pI st (fun s0 st => n_pC 107 st (fun st => n_pE st (fX12_readProduct_94 N k10 s0 M)))))]) 15 (iX12_readProduct N hG) (n_kc (fun lv st M r h => by
      obtain ⟨e0, h1⟩ := n_lC_x h
      obtain ⟨s0, t0, rfl, h2⟩ := n_pI_x h1
      obtain ⟨t1, rfl, h3⟩ := n_pC_x h2
      obtain ⟨rfl, h4⟩ := n_pE_x h3
      exact n_sub (n_qc e0 n_qe) (bX12_readProduct_94 N hG k10 hk10 s0 M r h4)) n_ke) (by rfl) h
def fX12_readProduct_57 (N : Nat) (k10 : nM → Option (Int32 × nM)) (x1 : Int32) (M : nM) : Option (Int32 × nM) :=
  if ¬ x1 = 0 then
    fX12_readProduct_74 N k10 x1 M
  else
    if ¬ (M 107 19) = 0 then
      fX12_readProduct_74 N k10 x1 M
    else
      (fX12_errs (2 : Int32) M).bind fun p1 =>
      some (p1.1, p1.2)
set_option maxRecDepth 200000 in
theorem bX12_readProduct_57 {l : Launch} {w : nW} (N : Nat) {G : nG} (hG : n_GOK G) (k10 : nM → Option (Int32 × nM)) (hk10 : ∀ (M : nM) (r : Int32 × nM), k10 M = some r → n_At l w 4 mX12_readProduct 10 [(0, .ref 107)] [] (G, M) (dv_i r.1, (G, r.2))) (x1 : Int32) (M : nM) (r : Int32 × nM) (h : fX12_readProduct_57 N k10 x1 M = some r) : n_At l w 4 mX12_readProduct 57 [(0, .ref 107), (1, .int x1)] [] (G, M) (dv_i r.1, (G, r.2)) :=
  n_seg (fin := n_fin dv_i G) (K := [(74, fun lv st M => n_lC 107 lv 0 (n_lI lv 1 (fun x1 => n_pE st (fX12_readProduct_74 N k10 x1 M))))]) 12 (iX12_readProduct N hG) (n_kc (fun lv st M r h => by
      obtain ⟨e0, h1⟩ := n_lC_x h
      obtain ⟨x1, e1, h2⟩ := n_lI_x h1
      obtain ⟨rfl, h3⟩ := n_pE_x h2
      exact n_sub (n_qc e0 (n_qc e1 n_qe)) (bX12_readProduct_74 N hG k10 hk10 x1 M r h3)) n_ke) (by rfl) h
def fX12_readProduct_28 (N : Nat) (k10 : nM → Option (Int32 × nM)) (M : nM) : Option (Int32 × nM) :=
  (fX12_isSign (42 : Int32) M).bind fun p1 =>
  (fX12_reads_all N p1.2).bind fun p2 =>
  if ¬ p1.1 = 0 then
    fX12_readProduct_57 N k10 p1.1 p2.2
  else
    if (p2.2 107 18) = (3 : Int32) then
      fX12_readProduct_57 N k10 p1.1 p2.2
    else
      (fX12_errs (1 : Int32) p2.2).bind fun p3 =>
      some (p3.1, p3.2)
set_option maxRecDepth 200000 in
theorem bX12_readProduct_28 {l : Launch} {w : nW} (N : Nat) {G : nG} (hG : n_GOK G) (k10 : nM → Option (Int32 × nM)) (hk10 : ∀ (M : nM) (r : Int32 × nM), k10 M = some r → n_At l w 4 mX12_readProduct 10 [(0, .ref 107)] [] (G, M) (dv_i r.1, (G, r.2))) (M : nM) (r : Int32 × nM) (h : fX12_readProduct_28 N k10 M = some r) : n_At l w 4 mX12_readProduct 28 [(0, .ref 107)] [] (G, M) (dv_i r.1, (G, r.2)) :=
  n_seg (fin := n_fin dv_i G) (K := [(57, fun lv st M => n_lC 107 lv 0 (n_lI lv 1 (fun x1 => n_pE st (fX12_readProduct_57 N k10 x1 M))))]) 19 (iX12_readProduct N hG) (n_kc (fun lv st M r h => by
      obtain ⟨e0, h1⟩ := n_lC_x h
      obtain ⟨x1, e1, h2⟩ := n_lI_x h1
      obtain ⟨rfl, h3⟩ := n_pE_x h2
      exact n_sub (n_qc e0 (n_qc e1 n_qe)) (bX12_readProduct_57 N hG k10 hk10 x1 M r h3)) n_ke) (by rfl) h
def fX12_readProduct_10 (N : Nat) : Nat → nM → Option (Int32 × nM)
  | 0, _ => none
  | n + 1, M =>
    (fX12_isSign (42 : Int32) M).bind fun p1 =>
    if ¬ p1.1 = 0 then
      fX12_readProduct_28 N (fun M => fX12_readProduct_10 N n M) p1.2
    else
      (fX12_isSign (47 : Int32) p1.2).bind fun p2 =>
      if p2.1 = 0 then
        some ((0 : Int32), p2.2)
      else
        fX12_readProduct_28 N (fun M => fX12_readProduct_10 N n M) p2.2
set_option maxRecDepth 200000 in
theorem bX12_readProduct_10 {l : Launch} {w : nW} (N : Nat) {G : nG} (hG : n_GOK G) : ∀ (n : Nat) (M : nM) (r : Int32 × nM), fX12_readProduct_10 N n M = some r → n_At l w 4 mX12_readProduct 10 [(0, .ref 107)] [] (G, M) (dv_i r.1, (G, r.2)) := by
  intro n
  induction n with
  | zero => intro M r h; cases (show (none : Option (Int32 × nM)) = some r from h)
  | succ n ih =>
    intro M r h
    exact n_seg (fin := n_fin dv_i G) (K := [(28, fun lv st M => n_lC 107 lv 0 (n_pE st (fX12_readProduct_28 N (fun M => fX12_readProduct_10 N n M) M)))]) 13 (iX12_readProduct N hG) (n_kc (fun lv st M r h => by
      obtain ⟨e0, h1⟩ := n_lC_x h
      obtain ⟨rfl, h2⟩ := n_pE_x h1
      exact n_sub (n_qc e0 n_qe) (bX12_readProduct_28 N hG (fun M => fX12_readProduct_10 N n M) ih M r h2)) n_ke) (by rfl) h
def fX12_readProduct (N : Nat) (M : nM) : Option (Int32 × nM) :=
  (fX12_readUnit N M).bind fun p1 =>
  if ¬ p1.1 = (-1 : Int32) then
    fX12_readProduct_10 N N p1.2
  else
    some ((-1 : Int32), p1.2)
set_option maxRecDepth 200000 in
theorem bX12_readProduct_0 {l : Launch} {w : nW} (N : Nat) {G : nG} (hG : n_GOK G) (M : nM) (r : Int32 × nM) (h : fX12_readProduct N M = some r) : n_At l w 4 mX12_readProduct 0 [(0, .ref 107)] [] (G, M) (dv_i r.1, (G, r.2)) :=
  n_seg (fin := n_fin dv_i G) (K := [(10, fun lv st M => n_lC 107 lv 0 (n_pE st (fX12_readProduct_10 N N M)))]) 9 (iX12_readProduct N hG) (n_kc (fun lv st M r h => by
      obtain ⟨e0, h1⟩ := n_lC_x h
      obtain ⟨rfl, h2⟩ := n_pE_x h1
      exact n_sub (n_qc e0 n_qe) (bX12_readProduct_10 N hG N M r h2)) n_ke) (by rfl) h
theorem eX12_readProduct {l : Launch} {w : nW} (N : Nat) {G : nG} (hG : n_GOK G) (M : nM) (r : Int32 × nM) (h : fX12_readProduct N M = some r) : n_Met l w 4 mX12_readProduct [.ref 107] (G, M) (dv_i r.1, (G, r.2)) :=
  n_entry (by decide +kernel) rfl (Nat.le_of_ble_eq_true rfl) (n_sub (lv := [(0, .ref 107)]) (n_qc rfl n_qe) (bX12_readProduct_0 N hG M r h))
abbrev hX12_readProduct (N : Nat) : nF := fun T as M k => n_pC 107 as (fun as => n_pE as ((fX12_readProduct N M).bind fun p => k (dv_i p.1) p.2))
theorem csX12_readProduct {l : Launch} {w : nW} (N : Nat) {G : nG} (hG : n_GOK G) : n_CS l w 4 mX12_readProduct G (hX12_readProduct N) := fun T as M k r h => by
  obtain ⟨t0, rfl, h1⟩ := n_pC_x h
  obtain ⟨rfl, hE⟩ := n_pE_x h1
  obtain ⟨p, hp, hk⟩ := Option.bind_eq_some_iff.mp hE
  exact ⟨_, _, eX12_readProduct N hG M p hp, hk⟩
/-! ===== SleightHouseModel.readSum()I ===== -/
def mX12_readSum : nY := (RX12, yX12_readSum, cX12_readSum, 2, some .int)
theorem okX12_readSum : n_MOK mX12_readSum 0 := ⟨w_1792, w_151, ⟨by decide +kernel, by decide +kernel, by decide +kernel⟩, by decide⟩
abbrev aX12_readSum (N : Nat) : List (Nat × nO (Int32 × nM)) := [(0, o_aload 0 1), (1, o_callVc 107 0 (hX12_readProduct N) 4), (4, o_push (.int (-1 : Int32)) 5), (5, oc_ne 10 8), (8, o_push (.int (-1 : Int32)) 9), (9, o_iret), (10, o_aload 0 11), (11, o_push (.int (43 : Int32)) 13), (13, o_callVc 107 1 (hX12_isSign) 16), (16, oi_ne 28 19), (19, o_aload 0 20), (20, o_push (.int (45 : Int32)) 22), (22, o_callVc 107 1 (hX12_isSign) 25), (25, oi_eq 66 28), (28, o_aload 0 29), (29, o_gIc 107 19 32), (32, o_push (.int (43 : Int32)) 34), (34, oc_ne 41 37), (37, o_push (.int (2 : Int32)) 38), (38, o_goto 42), (41, o_push (.int (3 : Int32)) 42), (42, o_istore 2 1 43), (43, o_aload 0 44), (44, o_callVc 107 0 (hX12_reads N) 47), (47, o_aload 0 48), (48, o_callVc 107 0 (hX12_readProduct N) 51), (51, o_push (.int (-1 : Int32)) 52), (52, oc_ne 57 55), (55, o_push (.int (-1 : Int32)) 56), (56, o_iret), (57, o_aload 0 58), (58, o_iload 1 59), (59, o_push (.int (0 : Int32)) 60), (60, o_callVc 107 2 (hX12_emits) 63), (63, o_goto 10), (66, o_push (.int (0 : Int32)) 67), (67, o_iret)]
set_option maxRecDepth 200000 in
theorem iX12_readSum {l : Launch} {w : nW} (N : Nat) {G : nG} (hG : n_GOK G) : n_AllS l w 5 mX12_readSum G (n_fin dv_i G) (aX12_readSum N) :=
  n_c (s_aload_n (pc := 0) (k := 0) (by decide +kernel)) <|
  n_c (s_callVc (s_callV (pc := 1) (csX12_readProduct N hG) (by decide) okX12_readProduct nok12 w_1795 w_75 w_1793 (by decide +kernel)) (gk107 hG)) <|
  n_c (s_iconst (pc := 4) (n := -1) (by decide +kernel) (by decide +kernel)) <|
  n_c (s_icmp_ne (pc := 5) (off := 5) (by decide +kernel) (by decide +kernel)) <|
  n_c (s_iconst (pc := 8) (n := -1) (by decide +kernel) (by decide +kernel)) <|
  n_c (s_iret (pc := 9) rfl (by decide +kernel)) <|
  n_c (s_aload_n (pc := 10) (k := 0) (by decide +kernel)) <|
  n_c (s_bipush (pc := 11) (n := 43) (by decide +kernel) (by decide +kernel)) <|
  n_c (s_callVc (s_callV (pc := 13) (csX12_isSign hG) (by decide) okX12_isSign nok12 w_1759 w_66 w_1757 (by decide +kernel)) (gk107 hG)) <|
  n_c (s_if_ne (pc := 16) (off := 12) (by decide +kernel) (by decide +kernel)) <|
  n_c (s_aload_n (pc := 19) (k := 0) (by decide +kernel)) <|
  n_c (s_bipush (pc := 20) (n := 45) (by decide +kernel) (by decide +kernel)) <|
  n_c (s_callVc (s_callV (pc := 22) (csX12_isSign hG) (by decide) okX12_isSign nok12 w_1759 w_66 w_1757 (by decide +kernel)) (gk107 hG)) <|
  n_c (s_if_eq (pc := 25) (off := 41) (by decide +kernel) (by decide +kernel)) <|
  n_c (s_aload_n (pc := 28) (k := 0) (by decide +kernel)) <|
  n_c (s_gIc (s_getI (pc := 29) (ci := 12) (k := 19) (idx := 207) nok12 (by decide) rfl (by decide +kernel) w_1426) (gk107 hG)) <|
  n_c (s_bipush (pc := 32) (n := 43) (by decide +kernel) (by decide +kernel)) <|
  n_c (s_icmp_ne (pc := 34) (off := 7) (by decide +kernel) (by decide +kernel)) <|
  n_c (s_iconst (pc := 37) (n := 2) (by decide +kernel) (by decide +kernel)) <|
  n_c (s_goto (pc := 38) (off := 4) (by decide +kernel) (by decide +kernel)) <|
  n_c (s_iconst (pc := 41) (n := 3) (by decide +kernel) (by decide +kernel)) <|
  n_c (s_istore_n (pc := 42) (k := 1) (by decide +kernel)) <|
  n_c (s_aload_n (pc := 43) (k := 0) (by decide +kernel)) <|
  n_c (s_callVc (s_callV (pc := 44) (csX12_reads N hG) (by decide) okX12_reads nok12 w_1707 w_53 w_1705 (by decide +kernel)) (gk107 hG)) <|
  n_c (s_aload_n (pc := 47) (k := 0) (by decide +kernel)) <|
  n_c (s_callVc (s_callV (pc := 48) (csX12_readProduct N hG) (by decide) okX12_readProduct nok12 w_1795 w_75 w_1793 (by decide +kernel)) (gk107 hG)) <|
  n_c (s_iconst (pc := 51) (n := -1) (by decide +kernel) (by decide +kernel)) <|
  n_c (s_icmp_ne (pc := 52) (off := 5) (by decide +kernel) (by decide +kernel)) <|
  n_c (s_iconst (pc := 55) (n := -1) (by decide +kernel) (by decide +kernel)) <|
  n_c (s_iret (pc := 56) rfl (by decide +kernel)) <|
  n_c (s_aload_n (pc := 57) (k := 0) (by decide +kernel)) <|
  n_c (s_iload_n (pc := 58) (k := 1) (by decide +kernel)) <|
  n_c (s_iconst (pc := 59) (n := 0) (by decide +kernel) (by decide +kernel)) <|
  n_c (s_callVc (s_callV (pc := 60) (csX12_emits hG) (by decide) okX12_emits nok12 w_1807 w_78 w_1805 (by decide +kernel)) (gk107 hG)) <|
  n_c (s_goto (pc := 63) (off := -53) (by decide +kernel) (by decide +kernel)) <|
  n_c (s_iconst (pc := 66) (n := 0) (by decide +kernel) (by decide +kernel)) <|
  n_c (s_iret (pc := 67) rfl (by decide +kernel)) <|
  n_e
def fX12_readSum_42 (N : Nat) (k10 : nM → Option (Int32 × nM)) (s0 : Int32) (M : nM) : Option (Int32 × nM) :=
  (fX12_reads_all N M).bind fun p1 =>
  (fX12_readProduct N p1.2).bind fun p2 =>
  if ¬ p2.1 = (-1 : Int32) then
    (fX12_emits s0 (0 : Int32) p2.2).bind fun p3 =>
    k10 p3.2
  else
    some ((-1 : Int32), p2.2)
set_option maxRecDepth 200000 in
theorem bX12_readSum_42 {l : Launch} {w : nW} (N : Nat) {G : nG} (hG : n_GOK G) (k10 : nM → Option (Int32 × nM)) (hk10 : ∀ (M : nM) (r : Int32 × nM), k10 M = some r → n_At l w 5 mX12_readSum 10 [(0, .ref 107)] [] (G, M) (dv_i r.1, (G, r.2))) (s0 : Int32) (M : nM) (r : Int32 × nM) (h : fX12_readSum_42 N k10 s0 M = some r) : n_At l w 5 mX12_readSum 42 [(0, .ref 107)] [.int s0] (G, M) (dv_i r.1, (G, r.2)) :=
  n_seg (fin := n_fin dv_i G) (K := [(10, fun lv st M => n_lC 107 lv 0 (n_pE st (k10 M)))]) 17 (iX12_readSum N hG) (n_kc (fun lv st M r h => by
      obtain ⟨e0, h1⟩ := n_lC_x h
      obtain ⟨rfl, h2⟩ := n_pE_x h1
      exact n_sub (n_qc e0 n_qe) (hk10 M r h2)) n_ke) (by rfl) h
def fX12_readSum_28 (N : Nat) (k10 : nM → Option (Int32 × nM)) (M : nM) : Option (Int32 × nM) :=
  if ¬ (M 107 19) = (43 : Int32) then
    fX12_readSum_42 N k10 (3 : Int32) M
  else
    fX12_readSum_42 N k10 (2 : Int32) M
set_option maxRecDepth 200000 in
theorem bX12_readSum_28 {l : Launch} {w : nW} (N : Nat) {G : nG} (hG : n_GOK G) (k10 : nM → Option (Int32 × nM)) (hk10 : ∀ (M : nM) (r : Int32 × nM), k10 M = some r → n_At l w 5 mX12_readSum 10 [(0, .ref 107)] [] (G, M) (dv_i r.1, (G, r.2))) (M : nM) (r : Int32 × nM) (h : fX12_readSum_28 N k10 M = some r) : n_At l w 5 mX12_readSum 28 [(0, .ref 107)] [] (G, M) (dv_i r.1, (G, r.2)) :=
  n_seg (fin := n_fin dv_i G) (K := [(42, fun lv st M => n_lC 107 lv 0 (n_pI st (fun s0 st => n_pE st (fX12_readSum_42 N k10 s0 M))))]) 10 (iX12_readSum N hG) (n_kc (fun lv st M r h => by
      obtain ⟨e0, h1⟩ := n_lC_x h
      obtain ⟨s0, t0, rfl, h2⟩ := n_pI_x h1
      obtain ⟨rfl, h3⟩ := n_pE_x h2
      exact n_sub (n_qc e0 n_qe) (bX12_readSum_42 N hG k10 hk10 s0 M r h3)) n_ke) (by rfl) h
def fX12_readSum_10 (N : Nat) : Nat → nM → Option (Int32 × nM)
  | 0, _ => none
  | n + 1, M =>
    (fX12_isSign (43 : Int32) M).bind fun p1 =>
    if ¬ p1.1 = 0 then
      fX12_readSum_28 N (fun M => fX12_readSum_10 N n M) p1.2
    else
      (fX12_isSign (45 : Int32) p1.2).bind fun p2 =>
      if p2.1 = 0 then
        some ((0 : Int32), p2.2)
      else
        fX12_readSum_28 N (fun M => fX12_readSum_10 N n M) p2.2
set_option maxRecDepth 200000 in
theorem bX12_readSum_10 {l : Launch} {w : nW} (N : Nat) {G : nG} (hG : n_GOK G) : ∀ (n : Nat) (M : nM) (r : Int32 × nM), fX12_readSum_10 N n M = some r → n_At l w 5 mX12_readSum 10 [(0, .ref 107)] [] (G, M) (dv_i r.1, (G, r.2)) := by
  intro n
  induction n with
  | zero => intro M r h; cases (show (none : Option (Int32 × nM)) = some r from h)
  | succ n ih =>
    intro M r h
    exact n_seg (fin := n_fin dv_i G) (K := [(28, fun lv st M => n_lC 107 lv 0 (n_pE st (fX12_readSum_28 N (fun M => fX12_readSum_10 N n M) M)))]) 13 (iX12_readSum N hG) (n_kc (fun lv st M r h => by
      obtain ⟨e0, h1⟩ := n_lC_x h
      obtain ⟨rfl, h2⟩ := n_pE_x h1
      exact n_sub (n_qc e0 n_qe) (bX12_readSum_28 N hG (fun M => fX12_readSum_10 N n M) ih M r h2)) n_ke) (by rfl) h
def fX12_readSum (N : Nat) (M : nM) : Option (Int32 × nM) :=
  (fX12_readProduct N M).bind fun p1 =>
  if ¬ p1.1 = (-1 : Int32) then
    fX12_readSum_10 N N p1.2
  else
    some ((-1 : Int32), p1.2)
set_option maxRecDepth 200000 in
theorem bX12_readSum_0 {l : Launch} {w : nW} (N : Nat) {G : nG} (hG : n_GOK G) (M : nM) (r : Int32 × nM) (h : fX12_readSum N M = some r) : n_At l w 5 mX12_readSum 0 [(0, .ref 107)] [] (G, M) (dv_i r.1, (G, r.2)) :=
  n_seg (fin := n_fin dv_i G) (K := [(10, fun lv st M => n_lC 107 lv 0 (n_pE st (fX12_readSum_10 N N M)))]) 9 (iX12_readSum N hG) (n_kc (fun lv st M r h => by
      obtain ⟨e0, h1⟩ := n_lC_x h
      obtain ⟨rfl, h2⟩ := n_pE_x h1
      exact n_sub (n_qc e0 n_qe) (bX12_readSum_10 N hG N M r h2)) n_ke) (by rfl) h
theorem eX12_readSum {l : Launch} {w : nW} (N : Nat) {G : nG} (hG : n_GOK G) (M : nM) (r : Int32 × nM) (h : fX12_readSum N M = some r) : n_Met l w 5 mX12_readSum [.ref 107] (G, M) (dv_i r.1, (G, r.2)) :=
  n_entry (by decide +kernel) rfl (Nat.le_of_ble_eq_true rfl) (n_sub (lv := [(0, .ref 107)]) (n_qc rfl n_qe) (bX12_readSum_0 N hG M r h))
abbrev hX12_readSum (N : Nat) : nF := fun T as M k => n_pC 107 as (fun as => n_pE as ((fX12_readSum N M).bind fun p => k (dv_i p.1) p.2))
theorem csX12_readSum {l : Launch} {w : nW} (N : Nat) {G : nG} (hG : n_GOK G) : n_CS l w 5 mX12_readSum G (hX12_readSum N) := fun T as M k r h => by
  obtain ⟨t0, rfl, h1⟩ := n_pC_x h
  obtain ⟨rfl, hE⟩ := n_pE_x h1
  obtain ⟨p, hp, hk⟩ := Option.bind_eq_some_iff.mp hE
  exact ⟨_, _, eX12_readSum N hG M p hp, hk⟩
/-! ===== SleightHouseModel.waits(I)V ===== -/
def mX12_waits : nY := (RX12, yX12_waits, cX12_waits, 2, none)
theorem okX12_waits : n_MOK mX12_waits 1 := ⟨w_1816, w_151, ⟨by decide +kernel, by decide +kernel, by decide +kernel⟩, by decide⟩
abbrev aX12_waits : List (Nat × nO (Unit × nM)) := [(0, o_aload 0 1), (1, o_gRc 107 126 4), (4, o_aload 0 5), (5, o_gIc 107 32 8), (8, o_iload 1 9), (9, o_iastc 126 40 10), (10, o_aload 0 11), (11, o_aload 0 12), (12, o_gIc 107 32 15), (15, o_push (.int (1 : Int32)) 16), (16, o_iadd 17), (17, o_pIc 107 32 20), (20, o_vret)]
set_option maxRecDepth 200000 in
theorem iX12_waits {l : Launch} {w : nW} {G : nG} (hG : n_GOK G) : n_AllS l w 0 mX12_waits G (n_fin dv_v G) (aX12_waits) :=
  n_c (s_aload_n (pc := 0) (k := 0) (by decide +kernel)) <|
  n_c (s_gRc (s_getR (pc := 1) (ci := 12) (k := 31) (idx := 64) nok12 (by decide) rfl (by decide +kernel) w_1438) (gk107 hG) (gm107_31 hG)) <|
  n_c (s_aload_n (pc := 4) (k := 0) (by decide +kernel)) <|
  n_c (s_gIc (s_getI (pc := 5) (ci := 12) (k := 32) (idx := 258) nok12 (by decide) rfl (by decide +kernel) w_1439) (gk107 hG)) <|
  n_c (s_iload_n (pc := 8) (k := 1) (by decide +kernel)) <|
  n_c (s_iastc (s_iastore (pc := 9) (by decide +kernel)) (gk126 hG) (gl126 hG)) <|
  n_c (s_aload_n (pc := 10) (k := 0) (by decide +kernel)) <|
  n_c (s_aload_n (pc := 11) (k := 0) (by decide +kernel)) <|
  n_c (s_gIc (s_getI (pc := 12) (ci := 12) (k := 32) (idx := 258) nok12 (by decide) rfl (by decide +kernel) w_1439) (gk107 hG)) <|
  n_c (s_iconst (pc := 15) (n := 1) (by decide +kernel) (by decide +kernel)) <|
  n_c (s_iadd (pc := 16) (by decide +kernel)) <|
  n_c (s_pIc (s_putI (pc := 17) (ci := 12) (k := 32) (idx := 258) nok12 (by decide) rfl rfl (by decide +kernel) w_1439) (gk107 hG)) <|
  n_c (s_vret (pc := 20) rfl (by decide +kernel)) <|
  n_e
def fX12_waits (x1 : Int32) (M : nM) : Option (Unit × nM) :=
  n_chk (n_ib 40 (M 107 32)) <|
  let M1 : nM := n_up M 126 (M 107 32).toNatClampNeg x1
  let M2 : nM := n_up M1 107 32 ((M1 107 32) + (1 : Int32))
  some ((), M2)
set_option maxRecDepth 200000 in
theorem bX12_waits_0 {l : Launch} {w : nW} {G : nG} (hG : n_GOK G) (x1 : Int32) (M : nM) (r : Unit × nM) (h : fX12_waits x1 M = some r) : n_At l w 0 mX12_waits 0 [(0, .ref 107), (1, .int x1)] [] (G, M) (dv_v r.1, (G, r.2)) :=
  n_seg (fin := n_fin dv_v G) (K := []) 16 (iX12_waits hG) n_ke (by rfl) h
theorem eX12_waits {l : Launch} {w : nW} {G : nG} (hG : n_GOK G) (z1 : Int32) (M : nM) (r : Unit × nM) (h : fX12_waits z1 M = some r) : n_Met l w 0 mX12_waits [.ref 107, .int z1] (G, M) (dv_v r.1, (G, r.2)) :=
  n_entry (by decide +kernel) rfl (Nat.le_of_ble_eq_true rfl) (n_sub (lv := [(0, .ref 107), (1, .int z1)]) (n_qc rfl (n_qc rfl n_qe)) (bX12_waits_0 hG z1 M r h))
abbrev hX12_waits : nF := fun T as M k => n_pC 107 as (fun as => n_pI as (fun z1 as => n_pE as ((fX12_waits z1 M).bind fun p => k (dv_v p.1) p.2)))
theorem csX12_waits {l : Launch} {w : nW} {G : nG} (hG : n_GOK G) : n_CS l w 0 mX12_waits G (hX12_waits) := fun T as M k r h => by
  obtain ⟨t0, rfl, h1⟩ := n_pC_x h
  obtain ⟨z1, t1, rfl, h2⟩ := n_pI_x h1
  obtain ⟨rfl, hE⟩ := n_pE_x h2
  obtain ⟨p, hp, hk⟩ := Option.bind_eq_some_iff.mp hE
  exact ⟨_, _, eX12_waits hG z1 M p hp, hk⟩
/-! ===== SleightHouseModel.readCompared()I ===== -/
def mX12_readCompared : nY := (RX12, yX12_readCompared, cX12_readCompared, 2, some .int)
theorem okX12_readCompared : n_MOK mX12_readCompared 0 := ⟨w_1820, w_151, ⟨by decide +kernel, by decide +kernel, by decide +kernel⟩, by decide⟩
abbrev aX12_readCompared (N : Nat) : List (Nat × nO (Int32 × nM)) := [(0, o_aload 0 1), (1, o_callVc 107 0 (hX12_readSum N) 4), (4, o_push (.int (-1 : Int32)) 5), (5, oc_ne 10 8), (8, o_push (.int (-1 : Int32)) 9), (9, o_iret), (10, o_aload 0 11), (11, o_push (.int (60 : Int32)) 13), (13, o_callVc 107 1 (hX12_isSign) 16), (16, oi_ne 43 19), (19, o_aload 0 20), (20, o_push (.int (61 : Int32)) 22), (22, o_callVc 107 1 (hX12_isSign) 25), (25, oi_ne 43 28), (28, o_aload 0 29), (29, o_push (.int (62 : Int32)) 31), (31, o_callVc 107 1 (hX12_isSign) 34), (34, oi_ne 43 37), (37, o_aload 0 38), (38, o_push (.int (1 : Int32)) 39), (39, o_callVc 107 1 (hX12_errs) 42), (42, o_iret), (43, o_aload 0 44), (44, o_gIc 107 19 47), (47, o_push (.int (60 : Int32)) 49), (49, oc_ne 57 52), (52, o_push (.int (6 : Int32)) 54), (54, o_goto 73), (57, o_aload 0 58), (58, o_gIc 107 19 61), (61, o_push (.int (61 : Int32)) 63), (63, oc_ne 71 66), (66, o_push (.int (7 : Int32)) 68), (68, o_goto 73), (71, o_push (.int (8 : Int32)) 73), (73, o_istore 2 1 74), (74, o_aload 0 75), (75, o_callVc 107 0 (hX12_reads N) 78), (78, o_aload 0 79), (79, o_callVc 107 0 (hX12_readSum N) 82), (82, o_push (.int (-1 : Int32)) 83), (83, oc_ne 88 86), (86, o_push (.int (-1 : Int32)) 87), (87, o_iret), (88, o_aload 0 89), (89, o_iload 1 90), (90, o_push (.int (0 : Int32)) 91), (91, o_callVc 107 2 (hX12_emits) 94), (94, o_push (.int (0 : Int32)) 95), (95, o_iret)]
set_option maxRecDepth 200000 in
theorem iX12_readCompared {l : Launch} {w : nW} (N : Nat) {G : nG} (hG : n_GOK G) : n_AllS l w 6 mX12_readCompared G (n_fin dv_i G) (aX12_readCompared N) :=
  n_c (s_aload_n (pc := 0) (k := 0) (by decide +kernel)) <|
  n_c (s_callVc (s_callV (pc := 1) (csX12_readSum N hG) (by decide) okX12_readSum nok12 w_1791 w_74 w_1789 (by decide +kernel)) (gk107 hG)) <|
  n_c (s_iconst (pc := 4) (n := -1) (by decide +kernel) (by decide +kernel)) <|
  n_c (s_icmp_ne (pc := 5) (off := 5) (by decide +kernel) (by decide +kernel)) <|
  n_c (s_iconst (pc := 8) (n := -1) (by decide +kernel) (by decide +kernel)) <|
  n_c (s_iret (pc := 9) rfl (by decide +kernel)) <|
  n_c (s_aload_n (pc := 10) (k := 0) (by decide +kernel)) <|
  n_c (s_bipush (pc := 11) (n := 60) (by decide +kernel) (by decide +kernel)) <|
  n_c (s_callVc (s_callV (pc := 13) (csX12_isSign hG) (by decide) okX12_isSign nok12 w_1759 w_66 w_1757 (by decide +kernel)) (gk107 hG)) <|
  n_c (s_if_ne (pc := 16) (off := 27) (by decide +kernel) (by decide +kernel)) <|
  n_c (s_aload_n (pc := 19) (k := 0) (by decide +kernel)) <|
  n_c (s_bipush (pc := 20) (n := 61) (by decide +kernel) (by decide +kernel)) <|
  n_c (s_callVc (s_callV (pc := 22) (csX12_isSign hG) (by decide) okX12_isSign nok12 w_1759 w_66 w_1757 (by decide +kernel)) (gk107 hG)) <|
  n_c (s_if_ne (pc := 25) (off := 18) (by decide +kernel) (by decide +kernel)) <|
  n_c (s_aload_n (pc := 28) (k := 0) (by decide +kernel)) <|
  n_c (s_bipush (pc := 29) (n := 62) (by decide +kernel) (by decide +kernel)) <|
  n_c (s_callVc (s_callV (pc := 31) (csX12_isSign hG) (by decide) okX12_isSign nok12 w_1759 w_66 w_1757 (by decide +kernel)) (gk107 hG)) <|
  n_c (s_if_ne (pc := 34) (off := 9) (by decide +kernel) (by decide +kernel)) <|
  n_c (s_aload_n (pc := 37) (k := 0) (by decide +kernel)) <|
  n_c (s_iconst (pc := 38) (n := 1) (by decide +kernel) (by decide +kernel)) <|
  n_c (s_callVc (s_callV (pc := 39) (csX12_errs hG) (by decide) okX12_errs nok12 w_1739 w_61 w_1737 (by decide +kernel)) (gk107 hG)) <|
  n_c (s_iret (pc := 42) rfl (by decide +kernel)) <|
  n_c (s_aload_n (pc := 43) (k := 0) (by decide +kernel)) <|
  n_c (s_gIc (s_getI (pc := 44) (ci := 12) (k := 19) (idx := 207) nok12 (by decide) rfl (by decide +kernel) w_1426) (gk107 hG)) <|
  n_c (s_bipush (pc := 47) (n := 60) (by decide +kernel) (by decide +kernel)) <|
  n_c (s_icmp_ne (pc := 49) (off := 8) (by decide +kernel) (by decide +kernel)) <|
  n_c (s_bipush (pc := 52) (n := 6) (by decide +kernel) (by decide +kernel)) <|
  n_c (s_goto (pc := 54) (off := 19) (by decide +kernel) (by decide +kernel)) <|
  n_c (s_aload_n (pc := 57) (k := 0) (by decide +kernel)) <|
  n_c (s_gIc (s_getI (pc := 58) (ci := 12) (k := 19) (idx := 207) nok12 (by decide) rfl (by decide +kernel) w_1426) (gk107 hG)) <|
  n_c (s_bipush (pc := 61) (n := 61) (by decide +kernel) (by decide +kernel)) <|
  n_c (s_icmp_ne (pc := 63) (off := 8) (by decide +kernel) (by decide +kernel)) <|
  n_c (s_bipush (pc := 66) (n := 7) (by decide +kernel) (by decide +kernel)) <|
  n_c (s_goto (pc := 68) (off := 5) (by decide +kernel) (by decide +kernel)) <|
  n_c (s_bipush (pc := 71) (n := 8) (by decide +kernel) (by decide +kernel)) <|
  n_c (s_istore_n (pc := 73) (k := 1) (by decide +kernel)) <|
  n_c (s_aload_n (pc := 74) (k := 0) (by decide +kernel)) <|
  n_c (s_callVc (s_callV (pc := 75) (csX12_reads N hG) (by decide) okX12_reads nok12 w_1707 w_53 w_1705 (by decide +kernel)) (gk107 hG)) <|
  n_c (s_aload_n (pc := 78) (k := 0) (by decide +kernel)) <|
  n_c (s_callVc (s_callV (pc := 79) (csX12_readSum N hG) (by decide) okX12_readSum nok12 w_1791 w_74 w_1789 (by decide +kernel)) (gk107 hG)) <|
  n_c (s_iconst (pc := 82) (n := -1) (by decide +kernel) (by decide +kernel)) <|
  n_c (s_icmp_ne (pc := 83) (off := 5) (by decide +kernel) (by decide +kernel)) <|
  n_c (s_iconst (pc := 86) (n := -1) (by decide +kernel) (by decide +kernel)) <|
  n_c (s_iret (pc := 87) rfl (by decide +kernel)) <|
  n_c (s_aload_n (pc := 88) (k := 0) (by decide +kernel)) <|
  n_c (s_iload_n (pc := 89) (k := 1) (by decide +kernel)) <|
  n_c (s_iconst (pc := 90) (n := 0) (by decide +kernel) (by decide +kernel)) <|
  n_c (s_callVc (s_callV (pc := 91) (csX12_emits hG) (by decide) okX12_emits nok12 w_1807 w_78 w_1805 (by decide +kernel)) (gk107 hG)) <|
  n_c (s_iconst (pc := 94) (n := 0) (by decide +kernel) (by decide +kernel)) <|
  n_c (s_iret (pc := 95) rfl (by decide +kernel)) <|
  n_e
def fX12_readCompared_73 (N : Nat) (s0 : Int32) (M : nM) : Option (Int32 × nM) :=
  (fX12_reads_all N M).bind fun p1 =>
  (fX12_readSum N p1.2).bind fun p2 =>
  if ¬ p2.1 = (-1 : Int32) then
    (fX12_emits s0 (0 : Int32) p2.2).bind fun p3 =>
    some ((0 : Int32), p3.2)
  else
    some ((-1 : Int32), p2.2)
set_option maxRecDepth 200000 in
theorem bX12_readCompared_73 {l : Launch} {w : nW} (N : Nat) {G : nG} (hG : n_GOK G) (s0 : Int32) (M : nM) (r : Int32 × nM) (h : fX12_readCompared_73 N s0 M = some r) : n_At l w 6 mX12_readCompared 73 [(0, .ref 107)] [.int s0] (G, M) (dv_i r.1, (G, r.2)) :=
  n_seg (fin := n_fin dv_i G) (K := []) 18 (iX12_readCompared N hG) n_ke (by rfl) h
def fX12_readCompared_43 (N : Nat) (M : nM) : Option (Int32 × nM) :=
  if ¬ (M 107 19) = (60 : Int32) then
    if ¬ (M 107 19) = (61 : Int32) then
      fX12_readCompared_73 N (8 : Int32) M
    else
      fX12_readCompared_73 N (7 : Int32) M
  else
    fX12_readCompared_73 N (6 : Int32) M
set_option maxRecDepth 200000 in
theorem bX12_readCompared_43 {l : Launch} {w : nW} (N : Nat) {G : nG} (hG : n_GOK G) (M : nM) (r : Int32 × nM) (h : fX12_readCompared_43 N M = some r) : n_At l w 6 mX12_readCompared 43 [(0, .ref 107)] [] (G, M) (dv_i r.1, (G, r.2)) :=
  n_seg (fin := n_fin dv_i G) (K := [(73, fun lv st M => n_lC 107 lv 0 (n_pI st (fun s0 st => n_pE st (fX12_readCompared_73 N s0 M))))]) 16 (iX12_readCompared N hG) (n_kc (fun lv st M r h => by
      obtain ⟨e0, h1⟩ := n_lC_x h
      obtain ⟨s0, t0, rfl, h2⟩ := n_pI_x h1
      obtain ⟨rfl, h3⟩ := n_pE_x h2
      exact n_sub (n_qc e0 n_qe) (bX12_readCompared_73 N hG s0 M r h3)) n_ke) (by rfl) h
def fX12_readCompared (N : Nat) (M : nM) : Option (Int32 × nM) :=
  (fX12_readSum N M).bind fun p1 =>
  if ¬ p1.1 = (-1 : Int32) then
    (fX12_isSign (60 : Int32) p1.2).bind fun p2 =>
    if ¬ p2.1 = 0 then
      fX12_readCompared_43 N p2.2
    else
      (fX12_isSign (61 : Int32) p2.2).bind fun p3 =>
      if ¬ p3.1 = 0 then
        fX12_readCompared_43 N p3.2
      else
        (fX12_isSign (62 : Int32) p3.2).bind fun p4 =>
        if ¬ p4.1 = 0 then
          fX12_readCompared_43 N p4.2
        else
          (fX12_errs (1 : Int32) p4.2).bind fun p5 =>
          some (p5.1, p5.2)
  else
    some ((-1 : Int32), p1.2)
set_option maxRecDepth 200000 in
theorem bX12_readCompared_0 {l : Launch} {w : nW} (N : Nat) {G : nG} (hG : n_GOK G) (M : nM) (r : Int32 × nM) (h : fX12_readCompared N M = some r) : n_At l w 6 mX12_readCompared 0 [(0, .ref 107)] [] (G, M) (dv_i r.1, (G, r.2)) :=
  n_seg (fin := n_fin dv_i G) (K := [(43, fun lv st M => n_lC 107 lv 0 (n_pE st (fX12_readCompared_43 N M)))]) 25 (iX12_readCompared N hG) (n_kc (fun lv st M r h => by
      obtain ⟨e0, h1⟩ := n_lC_x h
      obtain ⟨rfl, h2⟩ := n_pE_x h1
      exact n_sub (n_qc e0 n_qe) (bX12_readCompared_43 N hG M r h2)) n_ke) (by rfl) h
theorem eX12_readCompared {l : Launch} {w : nW} (N : Nat) {G : nG} (hG : n_GOK G) (M : nM) (r : Int32 × nM) (h : fX12_readCompared N M = some r) : n_Met l w 6 mX12_readCompared [.ref 107] (G, M) (dv_i r.1, (G, r.2)) :=
  n_entry (by decide +kernel) rfl (Nat.le_of_ble_eq_true rfl) (n_sub (lv := [(0, .ref 107)]) (n_qc rfl n_qe) (bX12_readCompared_0 N hG M r h))
abbrev hX12_readCompared (N : Nat) : nF := fun T as M k => n_pC 107 as (fun as => n_pE as ((fX12_readCompared N M).bind fun p => k (dv_i p.1) p.2))
theorem csX12_readCompared {l : Launch} {w : nW} (N : Nat) {G : nG} (hG : n_GOK G) : n_CS l w 6 mX12_readCompared G (hX12_readCompared N) := fun T as M k r h => by
  obtain ⟨t0, rfl, h1⟩ := n_pC_x h
  obtain ⟨rfl, hE⟩ := n_pE_x h1
  obtain ⟨p, hp, hk⟩ := Option.bind_eq_some_iff.mp hE
  exact ⟨_, _, eX12_readCompared N hG M p hp, hk⟩
/-! ===== SleightHouseModel.settles(I)V ===== -/
def mX12_settles : nY := (RX12, yX12_settles, cX12_settles, 2, none)
theorem okX12_settles : n_MOK mX12_settles 1 := ⟨w_1824, w_151, ⟨by decide +kernel, by decide +kernel, by decide +kernel⟩, by decide⟩
abbrev aX12_settles (N : Nat) : List (Nat × nO (Unit × nM)) := [(0, o_aload 0 1), (1, o_gIc 107 32 4), (4, oi_le 57 7), (7, o_aload 0 8), (8, o_gRc 107 126 11), (11, o_aload 0 12), (12, o_gIc 107 32 15), (15, o_push (.int (1 : Int32)) 16), (16, o_isub 17), (17, o_aldc 126 40 18), (18, o_iload 1 19), (19, oc_ne 57 22), (22, o_aload 0 23), (23, o_aload 0 24), (24, o_gIc 107 32 27), (27, o_push (.int (1 : Int32)) 28), (28, o_isub 29), (29, o_pIc 107 32 32), (32, o_aload 0 33), (33, o_iload 1 34), (34, o_push (.int (0 : Int32)) 35), (35, o_callVc 107 2 (hX12_emits) 38), (38, o_iload 1 39), (39, o_push (.int (9 : Int32)) 41), (41, oc_ne 0 44), (44, o_aload 0 45), (45, o_aload 0 46), (46, o_gIc 107 30 49), (49, o_push (.int (1 : Int32)) 50), (50, o_isub 51), (51, o_pIc 107 30 54), (54, o_goto 0), (57, o_vret)]
set_option maxRecDepth 200000 in
theorem iX12_settles {l : Launch} {w : nW} (N : Nat) {G : nG} (hG : n_GOK G) : n_AllS l w 1 mX12_settles G (n_fin dv_v G) (aX12_settles N) :=
  n_c (s_aload_n (pc := 0) (k := 0) (by decide +kernel)) <|
  n_c (s_gIc (s_getI (pc := 1) (ci := 12) (k := 32) (idx := 258) nok12 (by decide) rfl (by decide +kernel) w_1439) (gk107 hG)) <|
  n_c (s_if_le (pc := 4) (off := 53) (by decide +kernel) (by decide +kernel)) <|
  n_c (s_aload_n (pc := 7) (k := 0) (by decide +kernel)) <|
  n_c (s_gRc (s_getR (pc := 8) (ci := 12) (k := 31) (idx := 64) nok12 (by decide) rfl (by decide +kernel) w_1438) (gk107 hG) (gm107_31 hG)) <|
  n_c (s_aload_n (pc := 11) (k := 0) (by decide +kernel)) <|
  n_c (s_gIc (s_getI (pc := 12) (ci := 12) (k := 32) (idx := 258) nok12 (by decide) rfl (by decide +kernel) w_1439) (gk107 hG)) <|
  n_c (s_iconst (pc := 15) (n := 1) (by decide +kernel) (by decide +kernel)) <|
  n_c (s_isub (pc := 16) (by decide +kernel)) <|
  n_c (s_aldc (s_iaload (pc := 17) (by decide +kernel)) (gk126 hG) (gl126 hG)) <|
  n_c (s_iload_n (pc := 18) (k := 1) (by decide +kernel)) <|
  n_c (s_icmp_ne (pc := 19) (off := 38) (by decide +kernel) (by decide +kernel)) <|
  n_c (s_aload_n (pc := 22) (k := 0) (by decide +kernel)) <|
  n_c (s_aload_n (pc := 23) (k := 0) (by decide +kernel)) <|
  n_c (s_gIc (s_getI (pc := 24) (ci := 12) (k := 32) (idx := 258) nok12 (by decide) rfl (by decide +kernel) w_1439) (gk107 hG)) <|
  n_c (s_iconst (pc := 27) (n := 1) (by decide +kernel) (by decide +kernel)) <|
  n_c (s_isub (pc := 28) (by decide +kernel)) <|
  n_c (s_pIc (s_putI (pc := 29) (ci := 12) (k := 32) (idx := 258) nok12 (by decide) rfl rfl (by decide +kernel) w_1439) (gk107 hG)) <|
  n_c (s_aload_n (pc := 32) (k := 0) (by decide +kernel)) <|
  n_c (s_iload_n (pc := 33) (k := 1) (by decide +kernel)) <|
  n_c (s_iconst (pc := 34) (n := 0) (by decide +kernel) (by decide +kernel)) <|
  n_c (s_callVc (s_callV (pc := 35) (csX12_emits hG) (by decide) okX12_emits nok12 w_1807 w_78 w_1805 (by decide +kernel)) (gk107 hG)) <|
  n_c (s_iload_n (pc := 38) (k := 1) (by decide +kernel)) <|
  n_c (s_bipush (pc := 39) (n := 9) (by decide +kernel) (by decide +kernel)) <|
  n_c (s_icmp_ne (pc := 41) (off := -41) (by decide +kernel) (by decide +kernel)) <|
  n_c (s_aload_n (pc := 44) (k := 0) (by decide +kernel)) <|
  n_c (s_aload_n (pc := 45) (k := 0) (by decide +kernel)) <|
  n_c (s_gIc (s_getI (pc := 46) (ci := 12) (k := 30) (idx := 261) nok12 (by decide) rfl (by decide +kernel) w_1437) (gk107 hG)) <|
  n_c (s_iconst (pc := 49) (n := 1) (by decide +kernel) (by decide +kernel)) <|
  n_c (s_isub (pc := 50) (by decide +kernel)) <|
  n_c (s_pIc (s_putI (pc := 51) (ci := 12) (k := 30) (idx := 261) nok12 (by decide) rfl rfl (by decide +kernel) w_1437) (gk107 hG)) <|
  n_c (s_goto (pc := 54) (off := -54) (by decide +kernel) (by decide +kernel)) <|
  n_c (s_vret (pc := 57) rfl (by decide +kernel)) <|
  n_e
def fX12_settles_0 (N : Nat) : Nat → Int32 → nM → Option (Unit × nM)
  | 0, _, _ => none
  | n + 1, x1, M =>
    if (M 107 32) ≤ 0 then
      some ((), M)
    else
      n_chk (n_ib 40 ((M 107 32) - (1 : Int32))) <|
      if ¬ (M 126 ((M 107 32) - (1 : Int32)).toNatClampNeg) = x1 then
        some ((), M)
      else
        let M1 : nM := n_up M 107 32 ((M 107 32) - (1 : Int32))
        (fX12_emits x1 (0 : Int32) M1).bind fun p2 =>
        if ¬ x1 = (9 : Int32) then
          fX12_settles_0 N n x1 p2.2
        else
          let M3 : nM := n_up p2.2 107 30 ((p2.2 107 30) - (1 : Int32))
          fX12_settles_0 N n x1 M3
set_option maxRecDepth 200000 in
theorem bX12_settles_0 {l : Launch} {w : nW} (N : Nat) {G : nG} (hG : n_GOK G) : ∀ (n : Nat) (x1 : Int32) (M : nM) (r : Unit × nM), fX12_settles_0 N n x1 M = some r → n_At l w 1 mX12_settles 0 [(0, .ref 107), (1, .int x1)] [] (G, M) (dv_v r.1, (G, r.2)) := by
  intro n
  induction n with
  | zero => intro x1 M r h; cases (show (none : Option (Unit × nM)) = some r from h)
  | succ n ih =>
    intro x1 M r h
    exact n_seg (fin := n_fin dv_v G) (K := [(0, fun lv st M => n_lC 107 lv 0 (n_lI lv 1 (fun x1 => n_pE st (fX12_settles_0 N n x1 M))))]) 37 (iX12_settles N hG) (n_kc (fun lv st M r h => by
      obtain ⟨e0, h1⟩ := n_lC_x h
      obtain ⟨x1, e1, h2⟩ := n_lI_x h1
      obtain ⟨rfl, h3⟩ := n_pE_x h2
      exact n_sub (n_qc e0 (n_qc e1 n_qe)) (ih x1 M r h3)) n_ke) (by rfl) h
def fX12_settles_all (N : Nat) (z1 : Int32) (M : nM) : Option (Unit × nM) := fX12_settles_0 N N z1 M
theorem eX12_settles {l : Launch} {w : nW} (N : Nat) {G : nG} (hG : n_GOK G) (z1 : Int32) (M : nM) (r : Unit × nM) (h : fX12_settles_all N z1 M = some r) : n_Met l w 1 mX12_settles [.ref 107, .int z1] (G, M) (dv_v r.1, (G, r.2)) :=
  n_entry (by decide +kernel) rfl (Nat.le_of_ble_eq_true rfl) (n_sub (lv := [(0, .ref 107), (1, .int z1)]) (n_qc rfl (n_qc rfl n_qe)) (bX12_settles_0 N hG N z1 M r h))
abbrev hX12_settles (N : Nat) : nF := fun T as M k => n_pC 107 as (fun as => n_pI as (fun z1 as => n_pE as ((fX12_settles_all N z1 M).bind fun p => k (dv_v p.1) p.2)))
theorem csX12_settles {l : Launch} {w : nW} (N : Nat) {G : nG} (hG : n_GOK G) : n_CS l w 1 mX12_settles G (hX12_settles N) := fun T as M k r h => by
  obtain ⟨t0, rfl, h1⟩ := n_pC_x h
  obtain ⟨z1, t1, rfl, h2⟩ := n_pI_x h1
  obtain ⟨rfl, hE⟩ := n_pE_x h2
  obtain ⟨p, hp, hk⟩ := Option.bind_eq_some_iff.mp hE
  exact ⟨_, _, eX12_settles N hG z1 M p hp, hk⟩
