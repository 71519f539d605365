/-! ===== SleightHouse.of(II)I ===== -/
def mX11_of : nY := (RX11, yX11_of, cX11_of, 3, some .int)
theorem okX11_of : n_MOK mX11_of 2 := ⟨w_1082, w_137, ⟨by decide +kernel, by decide +kernel, by decide +kernel⟩, by decide⟩
abbrev aX11_of : List (Nat × nO (Int32 × nM)) := [(0, o_aload 0 1), (1, o_gRc 1 2 4), (4, o_iload 1 5), (5, o_callVc 2 1 (hX1_hasThing) 8), (8, oi_ne 13 11), (11, o_push (.int (-1 : Int32)) 12), (12, o_iret), (13, o_iload 2 14), (14, o_sw [((0 : Int32), 48), ((1 : Int32), 61), ((2 : Int32), 74), ((3 : Int32), 87), ((4 : Int32), 100)] 115), (48, o_aload 0 49), (49, o_gRc 1 2 52), (52, o_gRc 2 3 55), (55, o_gRc 3 5 58), (58, o_iload 1 59), (59, o_aldc 5 16 60), (60, o_iret), (61, o_aload 0 62), (62, o_gRc 1 2 65), (65, o_gRc 2 3 68), (68, o_gRc 3 6 71), (71, o_iload 1 72), (72, o_aldc 6 16 73), (73, o_iret), (74, o_aload 0 75), (75, o_gRc 1 2 78), (78, o_gRc 2 9 81), (81, o_gRc 9 10 84), (84, o_iload 1 85), (85, o_aldc 10 16 86), (86, o_iret), (87, o_aload 0 88), (88, o_gRc 1 2 91), (91, o_gRc 2 9 94), (94, o_gRc 9 11 97), (97, o_iload 1 98), (98, o_aldc 11 16 99), (99, o_iret), (100, o_aload 0 101), (101, o_gRc 1 2 104), (104, o_gRc 2 9 107), (107, o_gIc 9 5 110), (110, o_iload 1 111), (111, o_call 2 (hX4_bit) 114), (114, o_iret), (115, o_push (.int (-1 : Int32)) 116), (116, o_iret)]
set_option maxRecDepth 200000 in
theorem iX11_of {l : Launch} {w : nW} {G : nG} (hG : n_GOK G) : n_AllS l w 1 mX11_of G (n_fin dv_i G) (aX11_of) :=
  n_c (s_aload_n (pc := 0) (k := 0) (by decide +kernel)) <|
  n_c (s_gRc (s_getR (pc := 1) (ci := 11) (k := 0) (idx := 10) nok11 (by decide) rfl (by decide +kernel) w_572) (gk1 hG) (gm1_0 hG)) <|
  n_c (s_iload_n (pc := 4) (k := 1) (by decide +kernel)) <|
  n_c (s_callVc (s_callV (pc := 5) (csX1_hasThing hG) (by decide) okX1_hasThing nok1 w_651 w_652 w_650 (by decide +kernel)) (gk2 hG)) <|
  n_c (s_if_ne (pc := 8) (off := 5) (by decide +kernel) (by decide +kernel)) <|
  n_c (s_iconst (pc := 11) (n := -1) (by decide +kernel) (by decide +kernel)) <|
  n_c (s_iret (pc := 12) rfl (by decide +kernel)) <|
  n_c (s_iload_n (pc := 13) (k := 2) (by decide +kernel)) <|
  n_c (s_tsw (pc := 14) (dflt := 101) (lo := 0) (hi := 4) (offs := #[34, 47, 60, 73, 86]) (len := 34) (by decide +kernel) (by decide +kernel)) <|
  n_c (s_aload_n (pc := 48) (k := 0) (by decide +kernel)) <|
  n_c (s_gRc (s_getR (pc := 49) (ci := 11) (k := 0) (idx := 10) nok11 (by decide) rfl (by decide +kernel) w_572) (gk1 hG) (gm1_0 hG)) <|
  n_c (s_gRc (s_getR (pc := 52) (ci := 1) (k := 0) (idx := 34) nok1 (by decide) rfl (by decide +kernel) w_403) (gk2 hG) (gm2_0 hG)) <|
  n_c (s_gRc (s_getR (pc := 55) (ci := 8) (k := 1) (idx := 126) nok8 (by decide) rfl (by decide +kernel) w_187) (gk3 hG) (gm3_1 hG)) <|
  n_c (s_iload_n (pc := 58) (k := 1) (by decide +kernel)) <|
  n_c (s_aldc (s_iaload (pc := 59) (by decide +kernel)) (gk5 hG) (gl5 hG)) <|
  n_c (s_iret (pc := 60) rfl (by decide +kernel)) <|
  n_c (s_aload_n (pc := 61) (k := 0) (by decide +kernel)) <|
  n_c (s_gRc (s_getR (pc := 62) (ci := 11) (k := 0) (idx := 10) nok11 (by decide) rfl (by decide +kernel) w_572) (gk1 hG) (gm1_0 hG)) <|
  n_c (s_gRc (s_getR (pc := 65) (ci := 1) (k := 0) (idx := 34) nok1 (by decide) rfl (by decide +kernel) w_403) (gk2 hG) (gm2_0 hG)) <|
  n_c (s_gRc (s_getR (pc := 68) (ci := 8) (k := 2) (idx := 129) nok8 (by decide) rfl (by decide +kernel) w_190) (gk3 hG) (gm3_2 hG)) <|
  n_c (s_iload_n (pc := 71) (k := 1) (by decide +kernel)) <|
  n_c (s_aldc (s_iaload (pc := 72) (by decide +kernel)) (gk6 hG) (gl6 hG)) <|
  n_c (s_iret (pc := 73) rfl (by decide +kernel)) <|
  n_c (s_aload_n (pc := 74) (k := 0) (by decide +kernel)) <|
  n_c (s_gRc (s_getR (pc := 75) (ci := 11) (k := 0) (idx := 10) nok11 (by decide) rfl (by decide +kernel) w_572) (gk1 hG) (gm1_0 hG)) <|
  n_c (s_gRc (s_getR (pc := 78) (ci := 1) (k := 1) (idx := 77) nok1 (by decide) rfl (by decide +kernel) w_406) (gk2 hG) (gm2_1 hG)) <|
  n_c (s_gRc (s_getR (pc := 81) (ci := 4) (k := 1) (idx := 163) nok4 (by decide) rfl (by decide +kernel) w_232) (gk9 hG) (gm9_1 hG)) <|
  n_c (s_iload_n (pc := 84) (k := 1) (by decide +kernel)) <|
  n_c (s_aldc (s_iaload (pc := 85) (by decide +kernel)) (gk10 hG) (gl10 hG)) <|
  n_c (s_iret (pc := 86) rfl (by decide +kernel)) <|
  n_c (s_aload_n (pc := 87) (k := 0) (by decide +kernel)) <|
  n_c (s_gRc (s_getR (pc := 88) (ci := 11) (k := 0) (idx := 10) nok11 (by decide) rfl (by decide +kernel) w_572) (gk1 hG) (gm1_0 hG)) <|
  n_c (s_gRc (s_getR (pc := 91) (ci := 1) (k := 1) (idx := 77) nok1 (by decide) rfl (by decide +kernel) w_406) (gk2 hG) (gm2_1 hG)) <|
  n_c (s_gRc (s_getR (pc := 94) (ci := 4) (k := 2) (idx := 248) nok4 (by decide) rfl (by decide +kernel) w_235) (gk9 hG) (gm9_2 hG)) <|
  n_c (s_iload_n (pc := 97) (k := 1) (by decide +kernel)) <|
  n_c (s_aldc (s_iaload (pc := 98) (by decide +kernel)) (gk11 hG) (gl11 hG)) <|
  n_c (s_iret (pc := 99) rfl (by decide +kernel)) <|
  n_c (s_aload_n (pc := 100) (k := 0) (by decide +kernel)) <|
  n_c (s_gRc (s_getR (pc := 101) (ci := 11) (k := 0) (idx := 10) nok11 (by decide) rfl (by decide +kernel) w_572) (gk1 hG) (gm1_0 hG)) <|
  n_c (s_gRc (s_getR (pc := 104) (ci := 1) (k := 1) (idx := 77) nok1 (by decide) rfl (by decide +kernel) w_406) (gk2 hG) (gm2_1 hG)) <|
  n_c (s_gIc (s_getI (pc := 107) (ci := 4) (k := 5) (idx := 145) nok4 (by decide) rfl (by decide +kernel) w_244) (gk9 hG)) <|
  n_c (s_iload_n (pc := 110) (k := 1) (by decide +kernel)) <|
  n_c (s_callS (pc := 111) (csX4_bit) (by decide) okX4_bit w_678 w_1073 (by decide +kernel)) <|
  n_c (s_iret (pc := 114) rfl (by decide +kernel)) <|
  n_c (s_iconst (pc := 115) (n := -1) (by decide +kernel) (by decide +kernel)) <|
  n_c (s_iret (pc := 116) rfl (by decide +kernel)) <|
  n_e
def fX11_of (x1 : Int32) (x2 : Int32) (M : nM) : Option (Int32 × nM) :=
  (fX1_hasThing x1 M).bind fun p1 =>
  if ¬ p1.1 = 0 then
    if x2 = (0 : Int32) then
      n_chk (n_ib 16 x1) <|
      some ((p1.2 5 x1.toNatClampNeg), p1.2)
    else
    if x2 = (1 : Int32) then
      n_chk (n_ib 16 x1) <|
      some ((p1.2 6 x1.toNatClampNeg), p1.2)
    else
    if x2 = (2 : Int32) then
      n_chk (n_ib 16 x1) <|
      some ((p1.2 10 x1.toNatClampNeg), p1.2)
    else
    if x2 = (3 : Int32) then
      n_chk (n_ib 16 x1) <|
      some ((p1.2 11 x1.toNatClampNeg), p1.2)
    else
    if x2 = (4 : Int32) then
      (fX4_bit (p1.2 9 5) x1 p1.2).bind fun p2 =>
      some (p2.1, p2.2)
    else
    some ((-1 : Int32), p1.2)
  else
    some ((-1 : Int32), p1.2)
set_option maxRecDepth 200000 in
theorem bX11_of_0 {l : Launch} {w : nW} {G : nG} (hG : n_GOK G) (x1 : Int32) (x2 : Int32) (M : nM) (r : Int32 × nM) (h : fX11_of x1 x2 M = some r) : n_At l w 1 mX11_of 0 [(0, .ref 1), (1, .int x1), (2, .int x2)] [] (G, M) (dv_i r.1, (G, r.2)) :=
  n_seg (fin := n_fin dv_i G) (K := []) 49 (iX11_of hG) n_ke (by rfl) h
theorem eX11_of {l : Launch} {w : nW} {G : nG} (hG : n_GOK G) (z1 : Int32) (z2 : Int32) (M : nM) (r : Int32 × nM) (h : fX11_of z1 z2 M = some r) : n_Met l w 1 mX11_of [.ref 1, .int z1, .int z2] (G, M) (dv_i r.1, (G, r.2)) :=
  n_entry (by decide +kernel) rfl (Nat.le_of_ble_eq_true rfl) (n_sub (lv := [(0, .ref 1), (1, .int z1), (2, .int z2)]) (n_qc rfl (n_qc rfl (n_qc rfl n_qe))) (bX11_of_0 hG z1 z2 M r h))
abbrev hX11_of : nF := fun T as M k => n_pC 1 as (fun as => n_pI as (fun z1 as => n_pI as (fun z2 as => n_pE as ((fX11_of z1 z2 M).bind fun p => k (dv_i p.1) p.2))))
theorem csX11_of {l : Launch} {w : nW} {G : nG} (hG : n_GOK G) : n_CS l w 1 mX11_of G (hX11_of) := fun T as M k r h => by
  obtain ⟨t0, rfl, h1⟩ := n_pC_x h
  obtain ⟨z1, t1, rfl, h2⟩ := n_pI_x h1
  obtain ⟨z2, t2, rfl, h3⟩ := n_pI_x h2
  obtain ⟨rfl, hE⟩ := n_pE_x h3
  obtain ⟨p, hp, hk⟩ := Option.bind_eq_some_iff.mp hE
  exact ⟨_, _, eX11_of hG z1 z2 M p hp, hk⟩
/-! ===== SleightHouseModel.of(II)I ===== -/
def mX12_of : nY := (RX12, yX12_of, cX12_of, 3, some .int)
theorem okX12_of : n_MOK mX12_of 2 := ⟨w_1958, w_151, ⟨by decide +kernel, by decide +kernel, by decide +kernel⟩, by decide⟩
abbrev aX12_of : List (Nat × nO (Int32 × nM)) := [(0, o_aload 0 1), (1, o_push (.int (0 : Int32)) 2), (2, o_pIc 107 0 5), (5, o_aload 0 6), (6, o_iload 1 7), (7, o_callVc 107 1 (hX12_isThing) 10), (10, oi_ne 15 13), (13, o_push (.int (-1 : Int32)) 14), (14, o_iret), (15, o_iload 2 16), (16, oi_ne 26 19), (19, o_aload 0 20), (20, o_gRc 107 112 23), (23, o_iload 1 24), (24, o_aldc 112 16 25), (25, o_iret), (26, o_iload 2 27), (27, o_push (.int (1 : Int32)) 28), (28, oc_ne 38 31), (31, o_aload 0 32), (32, o_gRc 107 113 35), (35, o_iload 1 36), (36, o_aldc 113 16 37), (37, o_iret), (38, o_iload 2 39), (39, o_push (.int (2 : Int32)) 40), (40, oc_ne 53 43), (43, o_aload 0 44), (44, o_gRc 107 108 47), (47, o_push (.int (28 : Int32)) 49), (49, o_iload 1 50), (50, o_iadd 51), (51, o_aldc 108 100 52), (52, o_iret), (53, o_iload 2 54), (54, o_push (.int (3 : Int32)) 55), (55, oc_ne 70 58), (58, o_aload 0 59), (59, o_gRc 107 108 62), (62, o_push (.int (44 : Int32)) 64), (64, o_iload 1 65), (65, o_iadd 66), (66, o_aldc 108 100 67), (67, o_goto 88), (70, o_iload 2 71), (71, o_push (.int (4 : Int32)) 72), (72, oc_ne 87 75), (75, o_aload 0 76), (76, o_gRc 107 108 79), (79, o_push (.int (60 : Int32)) 81), (81, o_iload 1 82), (82, o_iadd 83), (83, o_aldc 108 100 84), (84, o_goto 88), (87, o_push (.int (-1 : Int32)) 88), (88, o_iret)]
set_option maxRecDepth 200000 in
theorem iX12_of {l : Launch} {w : nW} {G : nG} (hG : n_GOK G) : n_AllS l w 1 mX12_of G (n_fin dv_i G) (aX12_of) :=
  n_c (s_aload_n (pc := 0) (k := 0) (by decide +kernel)) <|
  n_c (s_iconst (pc := 1) (n := 0) (by decide +kernel) (by decide +kernel)) <|
  n_c (s_pIc (s_putI (pc := 2) (ci := 12) (k := 0) (idx := 146) nok12 (by decide) rfl rfl (by decide +kernel) w_1407) (gk107 hG)) <|
  n_c (s_aload_n (pc := 5) (k := 0) (by decide +kernel)) <|
  n_c (s_iload_n (pc := 6) (k := 1) (by decide +kernel)) <|
  n_c (s_callVc (s_callV (pc := 7) (csX12_isThing hG) (by decide) okX12_isThing nok12 w_1679 w_49 w_1677 (by decide +kernel)) (gk107 hG)) <|
  n_c (s_if_ne (pc := 10) (off := 5) (by decide +kernel) (by decide +kernel)) <|
  n_c (s_iconst (pc := 13) (n := -1) (by decide +kernel) (by decide +kernel)) <|
  n_c (s_iret (pc := 14) rfl (by decide +kernel)) <|
  n_c (s_iload_n (pc := 15) (k := 2) (by decide +kernel)) <|
  n_c (s_if_ne (pc := 16) (off := 10) (by decide +kernel) (by decide +kernel)) <|
  n_c (s_aload_n (pc := 19) (k := 0) (by decide +kernel)) <|
  n_c (s_gRc (s_getR (pc := 20) (ci := 12) (k := 9) (idx := 22) nok12 (by decide) rfl (by decide +kernel) w_1416) (gk107 hG) (gm107_9 hG)) <|
  n_c (s_iload_n (pc := 23) (k := 1) (by decide +kernel)) <|
  n_c (s_aldc (s_iaload (pc := 24) (by decide +kernel)) (gk112 hG) (gl112 hG)) <|
  n_c (s_iret (pc := 25) rfl (by decide +kernel)) <|
  n_c (s_iload_n (pc := 26) (k := 2) (by decide +kernel)) <|
  n_c (s_iconst (pc := 27) (n := 1) (by decide +kernel) (by decide +kernel)) <|
  n_c (s_icmp_ne (pc := 28) (off := 10) (by decide +kernel) (by decide +kernel)) <|
  n_c (s_aload_n (pc := 31) (k := 0) (by decide +kernel)) <|
  n_c (s_gRc (s_getR (pc := 32) (ci := 12) (k := 10) (idx := 25) nok12 (by decide) rfl (by decide +kernel) w_1417) (gk107 hG) (gm107_10 hG)) <|
  n_c (s_iload_n (pc := 35) (k := 1) (by decide +kernel)) <|
  n_c (s_aldc (s_iaload (pc := 36) (by decide +kernel)) (gk113 hG) (gl113 hG)) <|
  n_c (s_iret (pc := 37) rfl (by decide +kernel)) <|
  n_c (s_iload_n (pc := 38) (k := 2) (by decide +kernel)) <|
  n_c (s_iconst (pc := 39) (n := 2) (by decide +kernel) (by decide +kernel)) <|
  n_c (s_icmp_ne (pc := 40) (off := 13) (by decide +kernel) (by decide +kernel)) <|
  n_c (s_aload_n (pc := 43) (k := 0) (by decide +kernel)) <|
  n_c (s_gRc (s_getR (pc := 44) (ci := 12) (k := 1) (idx := 7) nok12 (by decide) rfl (by decide +kernel) w_1408) (gk107 hG) (gm107_1 hG)) <|
  n_c (s_bipush (pc := 47) (n := 28) (by decide +kernel) (by decide +kernel)) <|
  n_c (s_iload_n (pc := 49) (k := 1) (by decide +kernel)) <|
  n_c (s_iadd (pc := 50) (by decide +kernel)) <|
  n_c (s_aldc (s_iaload (pc := 51) (by decide +kernel)) (gk108 hG) (gl108 hG)) <|
  n_c (s_iret (pc := 52) rfl (by decide +kernel)) <|
  n_c (s_iload_n (pc := 53) (k := 2) (by decide +kernel)) <|
  n_c (s_iconst (pc := 54) (n := 3) (by decide +kernel) (by decide +kernel)) <|
  n_c (s_icmp_ne (pc := 55) (off := 15) (by decide +kernel) (by decide +kernel)) <|
  n_c (s_aload_n (pc := 58) (k := 0) (by decide +kernel)) <|
  n_c (s_gRc (s_getR (pc := 59) (ci := 12) (k := 1) (idx := 7) nok12 (by decide) rfl (by decide +kernel) w_1408) (gk107 hG) (gm107_1 hG)) <|
  n_c (s_bipush (pc := 62) (n := 44) (by decide +kernel) (by decide +kernel)) <|
  n_c (s_iload_n (pc := 64) (k := 1) (by decide +kernel)) <|
  n_c (s_iadd (pc := 65) (by decide +kernel)) <|
  n_c (s_aldc (s_iaload (pc := 66) (by decide +kernel)) (gk108 hG) (gl108 hG)) <|
  n_c (s_goto (pc := 67) (off := 21) (by decide +kernel) (by decide +kernel)) <|
  n_c (s_iload_n (pc := 70) (k := 2) (by decide +kernel)) <|
  n_c (s_iconst (pc := 71) (n := 4) (by decide +kernel) (by decide +kernel)) <|
  n_c (s_icmp_ne (pc := 72) (off := 15) (by decide +kernel) (by decide +kernel)) <|
  n_c (s_aload_n (pc := 75) (k := 0) (by decide +kernel)) <|
  n_c (s_gRc (s_getR (pc := 76) (ci := 12) (k := 1) (idx := 7) nok12 (by decide) rfl (by decide +kernel) w_1408) (gk107 hG) (gm107_1 hG)) <|
  n_c (s_bipush (pc := 79) (n := 60) (by decide +kernel) (by decide +kernel)) <|
  n_c (s_iload_n (pc := 81) (k := 1) (by decide +kernel)) <|
  n_c (s_iadd (pc := 82) (by decide +kernel)) <|
  n_c (s_aldc (s_iaload (pc := 83) (by decide +kernel)) (gk108 hG) (gl108 hG)) <|
  n_c (s_goto (pc := 84) (off := 4) (by decide +kernel) (by decide +kernel)) <|
  n_c (s_iconst (pc := 87) (n := -1) (by decide +kernel) (by decide +kernel)) <|
  n_c (s_iret (pc := 88) rfl (by decide +kernel)) <|
  n_e
def fX12_of (x1 : Int32) (x2 : Int32) (M : nM) : Option (Int32 × nM) :=
  let M1 : nM := n_up M 107 0 (0 : Int32)
  (fX12_isThing x1 M1).bind fun p2 =>
  if ¬ p2.1 = 0 then
    if ¬ x2 = 0 then
      if ¬ x2 = (1 : Int32) then
        if ¬ x2 = (2 : Int32) then
          if ¬ x2 = (3 : Int32) then
            if ¬ x2 = (4 : Int32) then
              some ((-1 : Int32), p2.2)
            else
              n_chk (n_ib 100 ((60 : Int32) + x1)) <|
              some ((p2.2 108 ((60 : Int32) + x1).toNatClampNeg), p2.2)
          else
            n_chk (n_ib 100 ((44 : Int32) + x1)) <|
            some ((p2.2 108 ((44 : Int32) + x1).toNatClampNeg), p2.2)
        else
          n_chk (n_ib 100 ((28 : Int32) + x1)) <|
          some ((p2.2 108 ((28 : Int32) + x1).toNatClampNeg), p2.2)
      else
        n_chk (n_ib 16 x1) <|
        some ((p2.2 113 x1.toNatClampNeg), p2.2)
    else
      n_chk (n_ib 16 x1) <|
      some ((p2.2 112 x1.toNatClampNeg), p2.2)
  else
    some ((-1 : Int32), p2.2)
set_option maxRecDepth 200000 in
theorem bX12_of_0 {l : Launch} {w : nW} {G : nG} (hG : n_GOK G) (x1 : Int32) (x2 : Int32) (M : nM) (r : Int32 × nM) (h : fX12_of x1 x2 M = some r) : n_At l w 1 mX12_of 0 [(0, .ref 107), (1, .int x1), (2, .int x2)] [] (G, M) (dv_i r.1, (G, r.2)) :=
  n_seg (fin := n_fin dv_i G) (K := []) 61 (iX12_of hG) n_ke (by rfl) h
theorem eX12_of {l : Launch} {w : nW} {G : nG} (hG : n_GOK G) (z1 : Int32) (z2 : Int32) (M : nM) (r : Int32 × nM) (h : fX12_of z1 z2 M = some r) : n_Met l w 1 mX12_of [.ref 107, .int z1, .int z2] (G, M) (dv_i r.1, (G, r.2)) :=
  n_entry (by decide +kernel) rfl (Nat.le_of_ble_eq_true rfl) (n_sub (lv := [(0, .ref 107), (1, .int z1), (2, .int z2)]) (n_qc rfl (n_qc rfl (n_qc rfl n_qe))) (bX12_of_0 hG z1 z2 M r h))
abbrev hX12_of : nF := fun T as M k => n_pC 107 as (fun as => n_pI as (fun z1 as => n_pI as (fun z2 as => n_pE as ((fX12_of z1 z2 M).bind fun p => k (dv_i p.1) p.2))))
theorem csX12_of {l : Launch} {w : nW} {G : nG} (hG : n_GOK G) : n_CS l w 1 mX12_of G (hX12_of) := fun T as M k r h => by
  obtain ⟨t0, rfl, h1⟩ := n_pC_x h
  obtain ⟨z1, t1, rfl, h2⟩ := n_pI_x h1
  obtain ⟨z2, t2, rfl, h3⟩ := n_pI_x h2
  obtain ⟨rfl, hE⟩ := n_pE_x h3
  obtain ⟨p, hp, hk⟩ := Option.bind_eq_some_iff.mp hE
  exact ⟨_, _, eX12_of hG z1 z2 M p hp, hk⟩
/-! ===== SleightHouse$House.parentsOf(I)I ===== -/
def mX1_parentsOf : nY := (RX1, yX1_parentsOf, cX1_parentsOf, 4, some .int)
theorem okX1_parentsOf : n_MOK mX1_parentsOf 1 := ⟨w_1090, w_138, ⟨by decide +kernel, by decide +kernel, by decide +kernel⟩, by decide⟩
abbrev aX1_parentsOf (N : Nat) (G : nG) : List (Nat × nO (Int32 × nM)) := [(0, o_push (.int (0 : Int32)) 1), (1, o_istore 4 2 2), (2, o_push (.int (0 : Int32)) 3), (3, o_istore 4 3 4), (4, o_iload 3 5), (5, o_aload 0 6), (6, o_gRc 2 26 9), (9, o_gIc 26 3 12), (12, oc_ge 49 15), (15, o_aload 0 16), (16, o_gRc 2 26 19), (19, o_iload 3 20), (20, o_push (.int (0 : Int32)) 21), (21, o_callVc 26 2 (hX7_cell G) 24), (24, o_iload 1 25), (25, oc_ne 43 28), (28, o_iload 2 29), (29, o_aload 0 30), (30, o_gRc 2 26 33), (33, o_iload 3 34), (34, o_push (.int (1 : Int32)) 35), (35, o_callVc 26 2 (hX7_cell G) 38), (38, o_push (.int (1 : Int32)) 39), (39, o_call 3 (hX4_withBit) 42), (42, o_istore 4 2 43), (43, o_inc 4 3 (1 : Int32) 46), (46, o_goto 4), (49, o_iload 2 50), (50, o_iret)]
set_option maxRecDepth 200000 in
theorem iX1_parentsOf {l : Launch} {w : nW} (N : Nat) {G : nG} (hG : n_GOK G) : n_AllS l w 1 mX1_parentsOf G (n_fin dv_i G) (aX1_parentsOf N G) :=
  n_c (s_iconst (pc := 0) (n := 0) (by decide +kernel) (by decide +kernel)) <|
  n_c (s_istore_n (pc := 1) (k := 2) (by decide +kernel)) <|
  n_c (s_iconst (pc := 2) (n := 0) (by decide +kernel) (by decide +kernel)) <|
  n_c (s_istore_n (pc := 3) (k := 3) (by decide +kernel)) <|
  n_c (s_iload_n (pc := 4) (k := 3) (by decide +kernel)) <|
  n_c (s_aload_n (pc := 5) (k := 0) (by decide +kernel)) <|
  n_c (s_gRc (s_getR (pc := 6) (ci := 1) (k := 6) (idx := 49) nok1 (by decide) rfl (by decide +kernel) w_419) (gk2 hG) (gm2_6 hG)) <|
  n_c (s_gIc (s_getI (pc := 9) (ci := 7) (k := 3) (idx := 66) nok7 (by decide) rfl (by decide +kernel) w_306) (gk26 hG)) <|
  n_c (s_icmp_ge (pc := 12) (off := 37) (by decide +kernel) (by decide +kernel)) <|
  n_c (s_aload_n (pc := 15) (k := 0) (by decide +kernel)) <|
  n_c (s_gRc (s_getR (pc := 16) (ci := 1) (k := 6) (idx := 49) nok1 (by decide) rfl (by decide +kernel) w_419) (gk2 hG) (gm2_6 hG)) <|
  n_c (s_iload_n (pc := 19) (k := 3) (by decide +kernel)) <|
  n_c (s_iconst (pc := 20) (n := 0) (by decide +kernel) (by decide +kernel)) <|
  n_c (s_callVc (s_callV (pc := 21) (csX7_cell) (by decide) okX7_cell nok7 w_786 w_787 w_1091 (by decide +kernel)) (gk26 hG)) <|
  n_c (s_iload_n (pc := 24) (k := 1) (by decide +kernel)) <|
  n_c (s_icmp_ne (pc := 25) (off := 18) (by decide +kernel) (by decide +kernel)) <|
  n_c (s_iload_n (pc := 28) (k := 2) (by decide +kernel)) <|
  n_c (s_aload_n (pc := 29) (k := 0) (by decide +kernel)) <|
  n_c (s_gRc (s_getR (pc := 30) (ci := 1) (k := 6) (idx := 49) nok1 (by decide) rfl (by decide +kernel) w_419) (gk2 hG) (gm2_6 hG)) <|
  n_c (s_iload_n (pc := 33) (k := 3) (by decide +kernel)) <|
  n_c (s_iconst (pc := 34) (n := 1) (by decide +kernel) (by decide +kernel)) <|
  n_c (s_callVc (s_callV (pc := 35) (csX7_cell) (by decide) okX7_cell nok7 w_786 w_787 w_1091 (by decide +kernel)) (gk26 hG)) <|
  n_c (s_iconst (pc := 38) (n := 1) (by decide +kernel) (by decide +kernel)) <|
  n_c (s_callS (pc := 39) (csX4_withBit) (by decide) okX4_withBit w_625 w_1092 (by decide +kernel)) <|
  n_c (s_istore_n (pc := 42) (k := 2) (by decide +kernel)) <|
  n_c (s_iinc (pc := 43) (n := 1) (by decide +kernel) (by decide +kernel)) <|
  n_c (s_goto (pc := 46) (off := -42) (by decide +kernel) (by decide +kernel)) <|
  n_c (s_iload_n (pc := 49) (k := 2) (by decide +kernel)) <|
  n_c (s_iret (pc := 50) rfl (by decide +kernel)) <|
  n_e
def fX1_parentsOf_4 (N : Nat) (G : nG) : Nat → Int32 → Int32 → Int32 → nM → Option (Int32 × nM)
  | 0, _, _, _, _ => none
  | n + 1, x1, x2, x3, M =>
    if (M 26 3) ≤ x3 then
      some (x2, M)
    else
      (fX7_cell G 26 x3 (0 : Int32) M).bind fun p1 =>
      if ¬ p1.1 = x1 then
        let v2 : Int32 := (x3 + (1 : Int32))
        fX1_parentsOf_4 N G n x1 x2 v2 p1.2
      else
        (fX7_cell G 26 x3 (1 : Int32) p1.2).bind fun p3 =>
        (fX4_withBit x2 p3.1 (1 : Int32) p3.2).bind fun p4 =>
        let v5 : Int32 := (x3 + (1 : Int32))
        fX1_parentsOf_4 N G n x1 p4.1 v5 p4.2
set_option maxRecDepth 200000 in
theorem bX1_parentsOf_4 {l : Launch} {w : nW} (N : Nat) {G : nG} (hG : n_GOK G) : ∀ (n : Nat) (x1 : Int32) (x2 : Int32) (x3 : Int32) (M : nM) (r : Int32 × nM), fX1_parentsOf_4 N G n x1 x2 x3 M = some r → n_At l w 1 mX1_parentsOf 4 [(0, .ref 2), (1, .int x1), (2, .int x2), (3, .int x3)] [] (G, M) (dv_i r.1, (G, r.2)) := by
  intro n
  induction n with
  | zero => intro x1 x2 x3 M r h; cases (show (none : Option (Int32 × nM)) = some r from h)
  | succ n ih =>
    intro x1 x2 x3 M r h
    exact n_seg (fin := n_fin dv_i G) (K := [(4, fun lv st M => n_lC 2 lv 0 (n_lI lv 1 (fun x1 => n_lI lv 2 (fun x2 => n_lI lv 3 (fun x3 => n_pE st (fX1_parentsOf_4 N G n x1 x2 x3 M))))))]) 30 (iX1_parentsOf N hG) (n_kc (fun lv st M r h => by
      obtain ⟨e0, h1⟩ := n_lC_x h
      obtain ⟨x1, e1, h2⟩ := n_lI_x h1
      obtain ⟨x2, e2, h3⟩ := n_lI_x h2
      obtain ⟨x3, e3, h4⟩ := n_lI_x h3
      obtain ⟨rfl, h5⟩ := n_pE_x h4
      exact n_sub (n_qc e0 (n_qc e1 (n_qc e2 (n_qc e3 n_qe)))) (ih x1 x2 x3 M r h5)) n_ke) (by rfl) h
def fX1_parentsOf (N : Nat) (G : nG) (x1 : Int32) (M : nM) : Option (Int32 × nM) :=
  fX1_parentsOf_4 N G N x1 (0 : Int32) (0 : Int32) M
set_option maxRecDepth 200000 in
theorem bX1_parentsOf_0 {l : Launch} {w : nW} (N : Nat) {G : nG} (hG : n_GOK G) (x1 : Int32) (M : nM) (r : Int32 × nM) (h : fX1_parentsOf N G x1 M = some r) : n_At l w 1 mX1_parentsOf 0 [(0, .ref 2), (1, .int x1)] [] (G, M) (dv_i r.1, (G, r.2)) :=
  n_seg (fin := n_fin dv_i G) (K := [(4, fun lv st M => n_lC 2 lv 0 (n_lI lv 1 (fun x1 => n_lI lv 2 (fun x2 => n_lI lv 3 (fun x3 => n_pE st (fX1_parentsOf_4 N G N x1 x2 x3 M))))))]) 7 (iX1_parentsOf N hG) (n_kc (fun lv st M r h => by
      obtain ⟨e0, h1⟩ := n_lC_x h
      obtain ⟨x1, e1, h2⟩ := n_lI_x h1
      obtain ⟨x2, e2, h3⟩ := n_lI_x h2
      obtain ⟨x3, e3, h4⟩ := n_lI_x h3
      obtain ⟨rfl, h5⟩ := n_pE_x h4
      exact n_sub (n_qc e0 (n_qc e1 (n_qc e2 (n_qc e3 n_qe)))) (bX1_parentsOf_4 N hG N x1 x2 x3 M r h5)) n_ke) (by rfl) h
theorem eX1_parentsOf {l : Launch} {w : nW} (N : Nat) {G : nG} (hG : n_GOK G) (z1 : Int32) (M : nM) (r : Int32 × nM) (h : fX1_parentsOf N G z1 M = some r) : n_Met l w 1 mX1_parentsOf [.ref 2, .int z1] (G, M) (dv_i r.1, (G, r.2)) :=
  n_entry (by decide +kernel) rfl (Nat.le_of_ble_eq_true rfl) (n_sub (lv := [(0, .ref 2), (1, .int z1)]) (n_qc rfl (n_qc rfl n_qe)) (bX1_parentsOf_0 N hG z1 M r h))
abbrev hX1_parentsOf (N : Nat) (G : nG) : nF := fun T as M k => n_pC 2 as (fun as => n_pI as (fun z1 as => n_pE as ((fX1_parentsOf N G z1 M).bind fun p => k (dv_i p.1) p.2)))
theorem csX1_parentsOf {l : Launch} {w : nW} (N : Nat) {G : nG} (hG : n_GOK G) : n_CS l w 1 mX1_parentsOf G (hX1_parentsOf N G) := fun T as M k r h => by
  obtain ⟨t0, rfl, h1⟩ := n_pC_x h
  obtain ⟨z1, t1, rfl, h2⟩ := n_pI_x h1
  obtain ⟨rfl, hE⟩ := n_pE_x h2
  obtain ⟨p, hp, hk⟩ := Option.bind_eq_some_iff.mp hE
  exact ⟨_, _, eX1_parentsOf N hG z1 M p hp, hk⟩
/-! ===== SleightHouse.who(II)I ===== -/
def mX11_who : nY := (RX11, yX11_who, cX11_who, 3, some .int)
theorem okX11_who : n_MOK mX11_who 2 := ⟨w_1086, w_137, ⟨by decide +kernel, by decide +kernel, by decide +kernel⟩, by decide⟩
abbrev aX11_who (N : Nat) (G : nG) : List (Nat × nO (Int32 × nM)) := [(0, o_aload 0 1), (1, o_gRc 1 2 4), (4, o_iload 1 5), (5, o_callVc 2 1 (hX1_hasPerson) 8), (8, oi_ne 13 11), (11, o_push (.int (-1 : Int32)) 12), (12, o_iret), (13, o_iload 2 14), (14, o_sw [((0 : Int32), 48), ((1 : Int32), 61), ((2 : Int32), 74), ((3 : Int32), 89), ((4 : Int32), 102)] 111), (48, o_aload 0 49), (49, o_gRc 1 2 52), (52, o_gRc 2 3 55), (55, o_gRc 3 7 58), (58, o_iload 1 59), (59, o_aldc 7 12 60), (60, o_iret), (61, o_aload 0 62), (62, o_gRc 1 2 65), (65, o_gRc 2 3 68), (68, o_gRc 3 8 71), (71, o_iload 1 72), (72, o_aldc 8 12 73), (73, o_iret), (74, o_aload 0 75), (75, o_gRc 1 2 78), (78, o_gRc 2 9 81), (81, o_gIc 9 6 84), (84, o_iload 1 85), (85, o_call 2 (hX4_bit) 88), (88, o_iret), (89, o_aload 0 90), (90, o_gRc 1 2 93), (93, o_gRc 2 9 96), (96, o_gRc 9 12 99), (99, o_iload 1 100), (100, o_aldc 12 12 101), (101, o_iret), (102, o_aload 0 103), (103, o_gRc 1 2 106), (106, o_iload 1 107), (107, o_callVc 2 1 (hX1_parentsOf N G) 110), (110, o_iret), (111, o_push (.int (-1 : Int32)) 112), (112, o_iret)]
set_option maxRecDepth 200000 in
theorem iX11_who {l : Launch} {w : nW} (N : Nat) {G : nG} (hG : n_GOK G) : n_AllS l w 2 mX11_who G (n_fin dv_i G) (aX11_who N G) :=
  n_c (s_aload_n (pc := 0) (k := 0) (by decide +kernel)) <|
  n_c (s_gRc (s_getR (pc := 1) (ci := 11) (k := 0) (idx := 10) nok11 (by decide) rfl (by decide +kernel) w_572) (gk1 hG) (gm1_0 hG)) <|
  n_c (s_iload_n (pc := 4) (k := 1) (by decide +kernel)) <|
  n_c (s_callVc (s_callV (pc := 5) (csX1_hasPerson hG) (by decide) okX1_hasPerson nok1 w_660 w_661 w_659 (by decide +kernel)) (gk2 hG)) <|
  n_c (s_if_ne (pc := 8) (off := 5) (by decide +kernel) (by decide +kernel)) <|
  n_c (s_iconst (pc := 11) (n := -1) (by decide +kernel) (by decide +kernel)) <|
  n_c (s_iret (pc := 12) rfl (by decide +kernel)) <|
  n_c (s_iload_n (pc := 13) (k := 2) (by decide +kernel)) <|
  n_c (s_tsw (pc := 14) (dflt := 97) (lo := 0) (hi := 4) (offs := #[34, 47, 60, 75, 88]) (len := 34) (by decide +kernel) (by decide +kernel)) <|
  n_c (s_aload_n (pc := 48) (k := 0) (by decide +kernel)) <|
  n_c (s_gRc (s_getR (pc := 49) (ci := 11) (k := 0) (idx := 10) nok11 (by decide) rfl (by decide +kernel) w_572) (gk1 hG) (gm1_0 hG)) <|
  n_c (s_gRc (s_getR (pc := 52) (ci := 1) (k := 0) (idx := 34) nok1 (by decide) rfl (by decide +kernel) w_403) (gk2 hG) (gm2_0 hG)) <|
  n_c (s_gRc (s_getR (pc := 55) (ci := 8) (k := 3) (idx := 139) nok8 (by decide) rfl (by decide +kernel) w_193) (gk3 hG) (gm3_3 hG)) <|
  n_c (s_iload_n (pc := 58) (k := 1) (by decide +kernel)) <|
  n_c (s_aldc (s_iaload (pc := 59) (by decide +kernel)) (gk7 hG) (gl7 hG)) <|
  n_c (s_iret (pc := 60) rfl (by decide +kernel)) <|
  n_c (s_aload_n (pc := 61) (k := 0) (by decide +kernel)) <|
  n_c (s_gRc (s_getR (pc := 62) (ci := 11) (k := 0) (idx := 10) nok11 (by decide) rfl (by decide +kernel) w_572) (gk1 hG) (gm1_0 hG)) <|
  n_c (s_gRc (s_getR (pc := 65) (ci := 1) (k := 0) (idx := 34) nok1 (by decide) rfl (by decide +kernel) w_403) (gk2 hG) (gm2_0 hG)) <|
  n_c (s_gRc (s_getR (pc := 68) (ci := 8) (k := 4) (idx := 142) nok8 (by decide) rfl (by decide +kernel) w_196) (gk3 hG) (gm3_4 hG)) <|
  n_c (s_iload_n (pc := 71) (k := 1) (by decide +kernel)) <|
  n_c (s_aldc (s_iaload (pc := 72) (by decide +kernel)) (gk8 hG) (gl8 hG)) <|
  n_c (s_iret (pc := 73) rfl (by decide +kernel)) <|
  n_c (s_aload_n (pc := 74) (k := 0) (by decide +kernel)) <|
  n_c (s_gRc (s_getR (pc := 75) (ci := 11) (k := 0) (idx := 10) nok11 (by decide) rfl (by decide +kernel) w_572) (gk1 hG) (gm1_0 hG)) <|
  n_c (s_gRc (s_getR (pc := 78) (ci := 1) (k := 1) (idx := 77) nok1 (by decide) rfl (by decide +kernel) w_406) (gk2 hG) (gm2_1 hG)) <|
  n_c (s_gIc (s_getI (pc := 81) (ci := 4) (k := 6) (idx := 174) nok4 (by decide) rfl (by decide +kernel) w_247) (gk9 hG)) <|
  n_c (s_iload_n (pc := 84) (k := 1) (by decide +kernel)) <|
  n_c (s_callS (pc := 85) (csX4_bit) (by decide) okX4_bit w_678 w_1073 (by decide +kernel)) <|
  n_c (s_iret (pc := 88) rfl (by decide +kernel)) <|
  n_c (s_aload_n (pc := 89) (k := 0) (by decide +kernel)) <|
  n_c (s_gRc (s_getR (pc := 90) (ci := 11) (k := 0) (idx := 10) nok11 (by decide) rfl (by decide +kernel) w_572) (gk1 hG) (gm1_0 hG)) <|
  n_c (s_gRc (s_getR (pc := 93) (ci := 1) (k := 1) (idx := 77) nok1 (by decide) rfl (by decide +kernel) w_406) (gk2 hG) (gm2_1 hG)) <|
  n_c (s_gRc (s_getR (pc := 96) (ci := 4) (k := 3) (idx := 251) nok4 (by decide) rfl (by decide +kernel) w_238) (gk9 hG) (gm9_3 hG)) <|
  n_c (s_iload_n (pc := 99) (k := 1) (by decide +kernel)) <|
  n_c (s_aldc (s_iaload (pc := 100) (by decide +kernel)) (gk12 hG) (gl12 hG)) <|
  n_c (s_iret (pc := 101) rfl (by decide +kernel)) <|
  n_c (s_aload_n (pc := 102) (k := 0) (by decide +kernel)) <|
  n_c (s_gRc (s_getR (pc := 103) (ci := 11) (k := 0) (idx := 10) nok11 (by decide) rfl (by decide +kernel) w_572) (gk1 hG) (gm1_0 hG)) <|
  n_c (s_iload_n (pc := 106) (k := 1) (by decide +kernel)) <|
  n_c (s_callVc (s_callV (pc := 107) (csX1_parentsOf N hG) (by decide) okX1_parentsOf nok1 w_1088 w_1089 w_1087 (by decide +kernel)) (gk2 hG)) <|
  n_c (s_iret (pc := 110) rfl (by decide +kernel)) <|
  n_c (s_iconst (pc := 111) (n := -1) (by decide +kernel) (by decide +kernel)) <|
  n_c (s_iret (pc := 112) rfl (by decide +kernel)) <|
  n_e
def fX11_who (N : Nat) (G : nG) (x1 : Int32) (x2 : Int32) (M : nM) : Option (Int32 × nM) :=
  (fX1_hasPerson x1 M).bind fun p1 =>
  if ¬ p1.1 = 0 then
    if x2 = (0 : Int32) then
      n_chk (n_ib 12 x1) <|
      some ((p1.2 7 x1.toNatClampNeg), p1.2)
    else
    if x2 = (1 : Int32) then
      n_chk (n_ib 12 x1) <|
      some ((p1.2 8 x1.toNatClampNeg), p1.2)
    else
    if x2 = (2 : Int32) then
      (fX4_bit (p1.2 9 6) x1 p1.2).bind fun p2 =>
      some (p2.1, p2.2)
    else
    if x2 = (3 : Int32) then
      n_chk (n_ib 12 x1) <|
      some ((p1.2 12 x1.toNatClampNeg), p1.2)
    else
    if x2 = (4 : Int32) then
      (fX1_parentsOf N G x1 p1.2).bind fun p3 =>
      some (p3.1, p3.2)
    else
    some ((-1 : Int32), p1.2)
  else
    some ((-1 : Int32), p1.2)
set_option maxRecDepth 200000 in
theorem bX11_who_0 {l : Launch} {w : nW} (N : Nat) {G : nG} (hG : n_GOK G) (x1 : Int32) (x2 : Int32) (M : nM) (r : Int32 × nM) (h : fX11_who N G x1 x2 M = some r) : n_At l w 2 mX11_who 0 [(0, .ref 1), (1, .int x1), (2, .int x2)] [] (G, M) (dv_i r.1, (G, r.2)) :=
  n_seg (fin := n_fin dv_i G) (K := []) 47 (iX11_who N hG) n_ke (by rfl) h
theorem eX11_who {l : Launch} {w : nW} (N : Nat) {G : nG} (hG : n_GOK G) (z1 : Int32) (z2 : Int32) (M : nM) (r : Int32 × nM) (h : fX11_who N G z1 z2 M = some r) : n_Met l w 2 mX11_who [.ref 1, .int z1, .int z2] (G, M) (dv_i r.1, (G, r.2)) :=
  n_entry (by decide +kernel) rfl (Nat.le_of_ble_eq_true rfl) (n_sub (lv := [(0, .ref 1), (1, .int z1), (2, .int z2)]) (n_qc rfl (n_qc rfl (n_qc rfl n_qe))) (bX11_who_0 N hG z1 z2 M r h))
abbrev hX11_who (N : Nat) (G : nG) : nF := fun T as M k => n_pC 1 as (fun as => n_pI as (fun z1 as => n_pI as (fun z2 as => n_pE as ((fX11_who N G z1 z2 M).bind fun p => k (dv_i p.1) p.2))))
theorem csX11_who {l : Launch} {w : nW} (N : Nat) {G : nG} (hG : n_GOK G) : n_CS l w 2 mX11_who G (hX11_who N G) := fun T as M k r h => by
  obtain ⟨t0, rfl, h1⟩ := n_pC_x h
  obtain ⟨z1, t1, rfl, h2⟩ := n_pI_x h1
  obtain ⟨z2, t2, rfl, h3⟩ := n_pI_x h2
  obtain ⟨rfl, hE⟩ := n_pE_x h3
  obtain ⟨p, hp, hk⟩ := Option.bind_eq_some_iff.mp hE
  exact ⟨_, _, eX11_who N hG z1 z2 M p hp, hk⟩
/-! ===== SleightHouseModel.who(II)I ===== -/
def mX12_who : nY := (RX12, yX12_who, cX12_who, 3, some .int)
theorem okX12_who : n_MOK mX12_who 2 := ⟨w_1962, w_151, ⟨by decide +kernel, by decide +kernel, by decide +kernel⟩, by decide⟩
abbrev aX12_who : List (Nat × nO (Int32 × nM)) := [(0, o_aload 0 1), (1, o_push (.int (0 : Int32)) 2), (2, o_pIc 107 0 5), (5, o_aload 0 6), (6, o_iload 1 7), (7, o_callVc 107 1 (hX12_isPerson) 10), (10, oi_ne 15 13), (13, o_push (.int (-1 : Int32)) 14), (14, o_iret), (15, o_iload 2 16), (16, oi_ne 26 19), (19, o_aload 0 20), (20, o_gRc 107 114 23), (23, o_iload 1 24), (24, o_aldc 114 12 25), (25, o_iret), (26, o_iload 2 27), (27, o_push (.int (1 : Int32)) 28), (28, oc_ne 38 31), (31, o_aload 0 32), (32, o_gRc 107 115 35), (35, o_iload 1 36), (36, o_aldc 115 12 37), (37, o_iret), (38, o_iload 2 39), (39, o_push (.int (2 : Int32)) 40), (40, oc_ne 53 43), (43, o_aload 0 44), (44, o_gRc 107 108 47), (47, o_push (.int (76 : Int32)) 49), (49, o_iload 1 50), (50, o_iadd 51), (51, o_aldc 108 100 52), (52, o_iret), (53, o_iload 2 54), (54, o_push (.int (3 : Int32)) 55), (55, oc_ne 70 58), (58, o_aload 0 59), (59, o_gRc 107 108 62), (62, o_push (.int (88 : Int32)) 64), (64, o_iload 1 65), (65, o_iadd 66), (66, o_aldc 108 100 67), (67, o_goto 85), (70, o_iload 2 71), (71, o_push (.int (4 : Int32)) 72), (72, oc_ne 84 75), (75, o_aload 0 76), (76, o_gRc 107 129 79), (79, o_iload 1 80), (80, o_aldc 129 24 81), (81, o_goto 85), (84, o_push (.int (-1 : Int32)) 85), (85, o_iret)]
set_option maxRecDepth 200000 in
theorem iX12_who {l : Launch} {w : nW} {G : nG} (hG : n_GOK G) : n_AllS l w 1 mX12_who G (n_fin dv_i G) (aX12_who) :=
  n_c (s_aload_n (pc := 0) (k := 0) (by decide +kernel)) <|
  n_c (s_iconst (pc := 1) (n := 0) (by decide +kernel) (by decide +kernel)) <|
  n_c (s_pIc (s_putI (pc := 2) (ci := 12) (k := 0) (idx := 146) nok12 (by decide) rfl rfl (by decide +kernel) w_1407) (gk107 hG)) <|
  n_c (s_aload_n (pc := 5) (k := 0) (by decide +kernel)) <|
  n_c (s_iload_n (pc := 6) (k := 1) (by decide +kernel)) <|
  n_c (s_callVc (s_callV (pc := 7) (csX12_isPerson hG) (by decide) okX12_isPerson nok12 w_1683 w_50 w_1681 (by decide +kernel)) (gk107 hG)) <|
  n_c (s_if_ne (pc := 10) (off := 5) (by decide +kernel) (by decide +kernel)) <|
  n_c (s_iconst (pc := 13) (n := -1) (by decide +kernel) (by decide +kernel)) <|
  n_c (s_iret (pc := 14) rfl (by decide +kernel)) <|
  n_c (s_iload_n (pc := 15) (k := 2) (by decide +kernel)) <|
  n_c (s_if_ne (pc := 16) (off := 10) (by decide +kernel) (by decide +kernel)) <|
  n_c (s_aload_n (pc := 19) (k := 0) (by decide +kernel)) <|
  n_c (s_gRc (s_getR (pc := 20) (ci := 12) (k := 11) (idx := 28) nok12 (by decide) rfl (by decide +kernel) w_1418) (gk107 hG) (gm107_11 hG)) <|
  n_c (s_iload_n (pc := 23) (k := 1) (by decide +kernel)) <|
  n_c (s_aldc (s_iaload (pc := 24) (by decide +kernel)) (gk114 hG) (gl114 hG)) <|
  n_c (s_iret (pc := 25) rfl (by decide +kernel)) <|
  n_c (s_iload_n (pc := 26) (k := 2) (by decide +kernel)) <|
  n_c (s_iconst (pc := 27) (n := 1) (by decide +kernel) (by decide +kernel)) <|
  n_c (s_icmp_ne (pc := 28) (off := 10) (by decide +kernel) (by decide +kernel)) <|
  n_c (s_aload_n (pc := 31) (k := 0) (by decide +kernel)) <|
  n_c (s_gRc (s_getR (pc := 32) (ci := 12) (k := 12) (idx := 31) nok12 (by decide) rfl (by decide +kernel) w_1419) (gk107 hG) (gm107_12 hG)) <|
  n_c (s_iload_n (pc := 35) (k := 1) (by decide +kernel)) <|
  n_c (s_aldc (s_iaload (pc := 36) (by decide +kernel)) (gk115 hG) (gl115 hG)) <|
  n_c (s_iret (pc := 37) rfl (by decide +kernel)) <|
  n_c (s_iload_n (pc := 38) (k := 2) (by decide +kernel)) <|
  n_c (s_iconst (pc := 39) (n := 2) (by decide +kernel) (by decide +kernel)) <|
  n_c (s_icmp_ne (pc := 40) (off := 13) (by decide +kernel) (by decide +kernel)) <|
  n_c (s_aload_n (pc := 43) (k := 0) (by decide +kernel)) <|
  n_c (s_gRc (s_getR (pc := 44) (ci := 12) (k := 1) (idx := 7) nok12 (by decide) rfl (by decide +kernel) w_1408) (gk107 hG) (gm107_1 hG)) <|
  n_c (s_bipush (pc := 47) (n := 76) (by decide +kernel) (by decide +kernel)) <|
  n_c (s_iload_n (pc := 49) (k := 1) (by decide +kernel)) <|
  n_c (s_iadd (pc := 50) (by decide +kernel)) <|
  n_c (s_aldc (s_iaload (pc := 51) (by decide +kernel)) (gk108 hG) (gl108 hG)) <|
  n_c (s_iret (pc := 52) rfl (by decide +kernel)) <|
  n_c (s_iload_n (pc := 53) (k := 2) (by decide +kernel)) <|
  n_c (s_iconst (pc := 54) (n := 3) (by decide +kernel) (by decide +kernel)) <|
  n_c (s_icmp_ne (pc := 55) (off := 15) (by decide +kernel) (by decide +kernel)) <|
  n_c (s_aload_n (pc := 58) (k := 0) (by decide +kernel)) <|
  n_c (s_gRc (s_getR (pc := 59) (ci := 12) (k := 1) (idx := 7) nok12 (by decide) rfl (by decide +kernel) w_1408) (gk107 hG) (gm107_1 hG)) <|
  n_c (s_bipush (pc := 62) (n := 88) (by decide +kernel) (by decide +kernel)) <|
  n_c (s_iload_n (pc := 64) (k := 1) (by decide +kernel)) <|
  n_c (s_iadd (pc := 65) (by decide +kernel)) <|
  n_c (s_aldc (s_iaload (pc := 66) (by decide +kernel)) (gk108 hG) (gl108 hG)) <|
  n_c (s_goto (pc := 67) (off := 18) (by decide +kernel) (by decide +kernel)) <|
  n_c (s_iload_n (pc := 70) (k := 2) (by decide +kernel)) <|
  n_c (s_iconst (pc := 71) (n := 4) (by decide +kernel) (by decide +kernel)) <|
  n_c (s_icmp_ne (pc := 72) (off := 12) (by decide +kernel) (by decide +kernel)) <|
  n_c (s_aload_n (pc := 75) (k := 0) (by decide +kernel)) <|
  n_c (s_gRc (s_getR (pc := 76) (ci := 12) (k := 42) (idx := 77) nok12 (by decide) rfl (by decide +kernel) w_1449) (gk107 hG) (gm107_42 hG)) <|
  n_c (s_iload_n (pc := 79) (k := 1) (by decide +kernel)) <|
  n_c (s_aldc (s_iaload (pc := 80) (by decide +kernel)) (gk129 hG) (gl129 hG)) <|
  n_c (s_goto (pc := 81) (off := 4) (by decide +kernel) (by decide +kernel)) <|
  n_c (s_iconst (pc := 84) (n := -1) (by decide +kernel) (by decide +kernel)) <|
  n_c (s_iret (pc := 85) rfl (by decide +kernel)) <|
  n_e
def fX12_who (x1 : Int32) (x2 : Int32) (M : nM) : Option (Int32 × nM) :=
  let M1 : nM := n_up M 107 0 (0 : Int32)
  (fX12_isPerson x1 M1).bind fun p2 =>
  if ¬ p2.1 = 0 then
    if ¬ x2 = 0 then
      if ¬ x2 = (1 : Int32) then
        if ¬ x2 = (2 : Int32) then
          if ¬ x2 = (3 : Int32) then
            if ¬ x2 = (4 : Int32) then
              some ((-1 : Int32), p2.2)
            else
              n_chk (n_ib 24 x1) <|
              some ((p2.2 129 x1.toNatClampNeg), p2.2)
          else
            n_chk (n_ib 100 ((88 : Int32) + x1)) <|
            some ((p2.2 108 ((88 : Int32) + x1).toNatClampNeg), p2.2)
        else
          n_chk (n_ib 100 ((76 : Int32) + x1)) <|
          some ((p2.2 108 ((76 : Int32) + x1).toNatClampNeg), p2.2)
      else
        n_chk (n_ib 12 x1) <|
        some ((p2.2 115 x1.toNatClampNeg), p2.2)
    else
      n_chk (n_ib 12 x1) <|
      some ((p2.2 114 x1.toNatClampNeg), p2.2)
  else
    some ((-1 : Int32), p2.2)
set_option maxRecDepth 200000 in
theorem bX12_who_0 {l : Launch} {w : nW} {G : nG} (hG : n_GOK G) (x1 : Int32) (x2 : Int32) (M : nM) (r : Int32 × nM) (h : fX12_who x1 x2 M = some r) : n_At l w 1 mX12_who 0 [(0, .ref 107), (1, .int x1), (2, .int x2)] [] (G, M) (dv_i r.1, (G, r.2)) :=
  n_seg (fin := n_fin dv_i G) (K := []) 59 (iX12_who hG) n_ke (by rfl) h
theorem eX12_who {l : Launch} {w : nW} {G : nG} (hG : n_GOK G) (z1 : Int32) (z2 : Int32) (M : nM) (r : Int32 × nM) (h : fX12_who z1 z2 M = some r) : n_Met l w 1 mX12_who [.ref 107, .int z1, .int z2] (G, M) (dv_i r.1, (G, r.2)) :=
  n_entry (by decide +kernel) rfl (Nat.le_of_ble_eq_true rfl) (n_sub (lv := [(0, .ref 107), (1, .int z1), (2, .int z2)]) (n_qc rfl (n_qc rfl (n_qc rfl n_qe))) (bX12_who_0 hG z1 z2 M r h))
abbrev hX12_who : nF := fun T as M k => n_pC 107 as (fun as => n_pI as (fun z1 as => n_pI as (fun z2 as => n_pE as ((fX12_who z1 z2 M).bind fun p => k (dv_i p.1) p.2))))
theorem csX12_who {l : Launch} {w : nW} {G : nG} (hG : n_GOK G) : n_CS l w 1 mX12_who G (hX12_who) := fun T as M k r h => by
  obtain ⟨t0, rfl, h1⟩ := n_pC_x h
  obtain ⟨z1, t1, rfl, h2⟩ := n_pI_x h1
  obtain ⟨z2, t2, rfl, h3⟩ := n_pI_x h2
  obtain ⟨rfl, hE⟩ := n_pE_x h3
  obtain ⟨p, hp, hk⟩ := Option.bind_eq_some_iff.mp hE
  exact ⟨_, _, eX12_who hG z1 z2 M p hp, hk⟩
/-! ===== SleightHouse.tells(IIII)I ===== -/
def mX11_tells : nY := (RX11, yX11_tells, cX11_tells, 5, some .int)
theorem okX11_tells : n_MOK mX11_tells 4 := ⟨w_1096, w_137, ⟨by decide +kernel, by decide +kernel, by decide +kernel⟩, by decide⟩
abbrev aX11_tells (N : Nat) (G : nG) : List (Nat × nO (Int32 × nM)) := [(0, o_aload 0 1), (1, o_gRc 1 2 4), (4, o_iload 1 5), (5, o_callVc 2 1 (hX1_hasPerson) 8), (8, oi_eq 43 11), (11, o_aload 0 12), (12, o_gRc 1 2 15), (15, o_iload 2 16), (16, o_callVc 2 1 (hX1_hasThing) 19), (19, oi_eq 43 22), (22, o_aload 0 23), (23, o_gRc 1 2 26), (26, o_iload 3 27), (27, o_callVc 2 1 (hX1_hasPlace) 30), (30, oi_eq 43 33), (33, o_iload 4 35), (35, o_push (.int (0 : Int32)) 36), (36, o_push (.int (2 : Int32)) 37), (37, o_call 3 (hX11_within) 40), (40, oi_ne 45 43), (43, o_push (.int (-1 : Int32)) 44), (44, o_iret), (45, o_aload 0 46), (46, o_gRc 1 45 49), (49, o_aload 0 50), (50, o_gRc 1 2 53), (53, o_gRc 2 9 56), (56, o_iload 4 58), (58, o_iload 1 59), (59, o_iload 2 60), (60, o_iload 3 61), (61, o_callVc 45 5 (hX0_asked N G) 64), (64, o_iret)]
set_option maxRecDepth 200000 in
theorem iX11_tells {l : Launch} {w : nW} (N : Nat) {G : nG} (hG : n_GOK G) : n_AllS l w 4 mX11_tells G (n_fin dv_i G) (aX11_tells N G) :=
  n_c (s_aload_n (pc := 0) (k := 0) (by decide +kernel)) <|
  n_c (s_gRc (s_getR (pc := 1) (ci := 11) (k := 0) (idx := 10) nok11 (by decide) rfl (by decide +kernel) w_572) (gk1 hG) (gm1_0 hG)) <|
  n_c (s_iload_n (pc := 4) (k := 1) (by decide +kernel)) <|
  n_c (s_callVc (s_callV (pc := 5) (csX1_hasPerson hG) (by decide) okX1_hasPerson nok1 w_660 w_661 w_659 (by decide +kernel)) (gk2 hG)) <|
  n_c (s_if_eq (pc := 8) (off := 35) (by decide +kernel) (by decide +kernel)) <|
  n_c (s_aload_n (pc := 11) (k := 0) (by decide +kernel)) <|
  n_c (s_gRc (s_getR (pc := 12) (ci := 11) (k := 0) (idx := 10) nok11 (by decide) rfl (by decide +kernel) w_572) (gk1 hG) (gm1_0 hG)) <|
  n_c (s_iload_n (pc := 15) (k := 2) (by decide +kernel)) <|
  n_c (s_callVc (s_callV (pc := 16) (csX1_hasThing hG) (by decide) okX1_hasThing nok1 w_651 w_652 w_650 (by decide +kernel)) (gk2 hG)) <|
  n_c (s_if_eq (pc := 19) (off := 24) (by decide +kernel) (by decide +kernel)) <|
  n_c (s_aload_n (pc := 22) (k := 0) (by decide +kernel)) <|
  n_c (s_gRc (s_getR (pc := 23) (ci := 11) (k := 0) (idx := 10) nok11 (by decide) rfl (by decide +kernel) w_572) (gk1 hG) (gm1_0 hG)) <|
  n_c (s_iload_n (pc := 26) (k := 3) (by decide +kernel)) <|
  n_c (s_callVc (s_callV (pc := 27) (csX1_hasPlace) (by decide) okX1_hasPlace nok1 w_613 w_614 w_612 (by decide +kernel)) (gk2 hG)) <|
  n_c (s_if_eq (pc := 30) (off := 13) (by decide +kernel) (by decide +kernel)) <|
  n_c (s_iload (pc := 33) (by decide +kernel)) <|
  n_c (s_iconst (pc := 35) (n := 0) (by decide +kernel) (by decide +kernel)) <|
  n_c (s_iconst (pc := 36) (n := 2) (by decide +kernel) (by decide +kernel)) <|
  n_c (s_callS (pc := 37) (csX11_within) (by decide) okX11_within w_610 w_609 (by decide +kernel)) <|
  n_c (s_if_ne (pc := 40) (off := 5) (by decide +kernel) (by decide +kernel)) <|
  n_c (s_iconst (pc := 43) (n := -1) (by decide +kernel) (by decide +kernel)) <|
  n_c (s_iret (pc := 44) rfl (by decide +kernel)) <|
  n_c (s_aload_n (pc := 45) (k := 0) (by decide +kernel)) <|
  n_c (s_gRc (s_getR (pc := 46) (ci := 11) (k := 1) (idx := 21) nok11 (by decide) rfl (by decide +kernel) w_573) (gk1 hG) (gm1_1 hG)) <|
  n_c (s_aload_n (pc := 49) (k := 0) (by decide +kernel)) <|
  n_c (s_gRc (s_getR (pc := 50) (ci := 11) (k := 0) (idx := 10) nok11 (by decide) rfl (by decide +kernel) w_572) (gk1 hG) (gm1_0 hG)) <|
  n_c (s_gRc (s_getR (pc := 53) (ci := 1) (k := 1) (idx := 77) nok1 (by decide) rfl (by decide +kernel) w_406) (gk2 hG) (gm2_1 hG)) <|
  n_c (s_iload (pc := 56) (by decide +kernel)) <|
  n_c (s_iload_n (pc := 58) (k := 1) (by decide +kernel)) <|
  n_c (s_iload_n (pc := 59) (k := 2) (by decide +kernel)) <|
  n_c (s_iload_n (pc := 60) (k := 3) (by decide +kernel)) <|
  n_c (s_callVc (s_callV (pc := 61) (csX0_asked N hG) (by decide) okX0_asked nok0 w_714 w_715 w_1097 (by decide +kernel)) (gk45 hG)) <|
  n_c (s_iret (pc := 64) rfl (by decide +kernel)) <|
  n_e
def fX11_tells (N : Nat) (G : nG) (x1 : Int32) (x2 : Int32) (x3 : Int32) (x4 : Int32) (M : nM) : Option (Int32 × nM) :=
  (fX1_hasPerson x1 M).bind fun p1 =>
  if p1.1 = 0 then
    some ((-1 : Int32), p1.2)
  else
    (fX1_hasThing x2 p1.2).bind fun p2 =>
    if p2.1 = 0 then
      some ((-1 : Int32), p2.2)
    else
      (fX1_hasPlace x3 p2.2).bind fun p3 =>
      if p3.1 = 0 then
        some ((-1 : Int32), p3.2)
      else
        (fX11_within x4 (0 : Int32) (2 : Int32) p3.2).bind fun p4 =>
        if ¬ p4.1 = 0 then
          (fX0_asked N G 9 x4 x1 x2 x3 p4.2).bind fun p5 =>
          some (p5.1, p5.2)
        else
          some ((-1 : Int32), p4.2)
set_option maxRecDepth 200000 in
theorem bX11_tells_0 {l : Launch} {w : nW} (N : Nat) {G : nG} (hG : n_GOK G) (x1 : Int32) (x2 : Int32) (x3 : Int32) (x4 : Int32) (M : nM) (r : Int32 × nM) (h : fX11_tells N G x1 x2 x3 x4 M = some r) : n_At l w 4 mX11_tells 0 [(0, .ref 1), (1, .int x1), (2, .int x2), (3, .int x3), (4, .int x4)] [] (G, M) (dv_i r.1, (G, r.2)) :=
  n_seg (fin := n_fin dv_i G) (K := []) 42 (iX11_tells N hG) n_ke (by rfl) h
theorem eX11_tells {l : Launch} {w : nW} (N : Nat) {G : nG} (hG : n_GOK G) (z1 : Int32) (z2 : Int32) (z3 : Int32) (z4 : Int32) (M : nM) (r : Int32 × nM) (h : fX11_tells N G z1 z2 z3 z4 M = some r) : n_Met l w 4 mX11_tells [.ref 1, .int z1, .int z2, .int z3, .int z4] (G, M) (dv_i r.1, (G, r.2)) :=
  n_entry (by decide +kernel) rfl (Nat.le_of_ble_eq_true rfl) (n_sub (lv := [(0, .ref 1), (1, .int z1), (2, .int z2), (3, .int z3), (4, .int z4)]) (n_qc rfl (n_qc rfl (n_qc rfl (n_qc rfl (n_qc rfl n_qe))))) (bX11_tells_0 N hG z1 z2 z3 z4 M r h))
abbrev hX11_tells (N : Nat) (G : nG) : nF := fun T as M k => n_pC 1 as (fun as => n_pI as (fun z1 as => n_pI as (fun z2 as => n_pI as (fun z3 as => n_pI as (fun z4 as => n_pE as ((fX11_tells N G z1 z2 z3 z4 M).bind fun p => k (dv_i p.1) p.2))))))
theorem csX11_tells {l : Launch} {w : nW} (N : Nat) {G : nG} (hG : n_GOK G) : n_CS l w 4 mX11_tells G (hX11_tells N G) := fun T as M k r h => by
  obtain ⟨t0, rfl, h1⟩ := n_pC_x h
  obtain ⟨z1, t1, rfl, h2⟩ := n_pI_x h1
  obtain ⟨z2, t2, rfl, h3⟩ := n_pI_x h2
  obtain ⟨z3, t3, rfl, h4⟩ := n_pI_x h3
  obtain ⟨z4, t4, rfl, h5⟩ := n_pI_x h4
  obtain ⟨rfl, hE⟩ := n_pE_x h5
  obtain ⟨p, hp, hk⟩ := Option.bind_eq_some_iff.mp hE
  exact ⟨_, _, eX11_tells N hG z1 z2 z3 z4 M p hp, hk⟩
/-! ===== SleightHouseModel.tells(IIII)I ===== -/
def mX12_tells : nY := (RX12, yX12_tells, cX12_tells, 5, some .int)
theorem okX12_tells : n_MOK mX12_tells 4 := ⟨w_1966, w_151, ⟨by decide +kernel, by decide +kernel, by decide +kernel⟩, by decide⟩
abbrev aX12_tells (N : Nat) : List (Nat × nO (Int32 × nM)) := [(0, o_aload 0 1), (1, o_push (.int (0 : Int32)) 2), (2, o_pIc 107 0 5), (5, o_aload 0 6), (6, o_iload 1 7), (7, o_callVc 107 1 (hX12_isPerson) 10), (10, oi_eq 29 13), (13, o_aload 0 14), (14, o_iload 2 15), (15, o_callVc 107 1 (hX12_isThing) 18), (18, oi_eq 29 21), (21, o_aload 0 22), (22, o_iload 3 23), (23, o_callVc 107 1 (hX12_isPlace) 26), (26, oi_ne 31 29), (29, o_push (.int (-1 : Int32)) 30), (30, o_iret), (31, o_iload 4 33), (33, oi_ne 46 36), (36, o_aload 0 37), (37, o_iload 1 38), (38, o_iload 2 39), (39, o_iload 3 40), (40, o_callVc 107 3 (hX12_palmsOf N) 43), (43, o_goto 79), (46, o_iload 4 48), (48, o_push (.int (1 : Int32)) 49), (49, oc_ne 62 52), (52, o_aload 0 53), (53, o_iload 1 54), (54, o_iload 2 55), (55, o_iload 3 56), (56, o_callVc 107 3 (hX12_farOf N) 59), (59, o_goto 79), (62, o_iload 4 64), (64, o_push (.int (2 : Int32)) 65), (65, oc_ne 78 68), (68, o_aload 0 69), (69, o_iload 1 70), (70, o_iload 2 71), (71, o_iload 3 72), (72, o_callVc 107 3 (hX12_findsOf N) 75), (75, o_goto 79), (78, o_push (.int (-1 : Int32)) 79), (79, o_iret)]
set_option maxRecDepth 200000 in
theorem iX12_tells {l : Launch} {w : nW} (N : Nat) {G : nG} (hG : n_GOK G) : n_AllS l w 5 mX12_tells G (n_fin dv_i G) (aX12_tells N) :=
  n_c (s_aload_n (pc := 0) (k := 0) (by decide +kernel)) <|
  n_c (s_iconst (pc := 1) (n := 0) (by decide +kernel) (by decide +kernel)) <|
  n_c (s_pIc (s_putI (pc := 2) (ci := 12) (k := 0) (idx := 146) nok12 (by decide) rfl rfl (by decide +kernel) w_1407) (gk107 hG)) <|
  n_c (s_aload_n (pc := 5) (k := 0) (by decide +kernel)) <|
  n_c (s_iload_n (pc := 6) (k := 1) (by decide +kernel)) <|
  n_c (s_callVc (s_callV (pc := 7) (csX12_isPerson hG) (by decide) okX12_isPerson nok12 w_1683 w_50 w_1681 (by decide +kernel)) (gk107 hG)) <|
  n_c (s_if_eq (pc := 10) (off := 19) (by decide +kernel) (by decide +kernel)) <|
  n_c (s_aload_n (pc := 13) (k := 0) (by decide +kernel)) <|
  n_c (s_iload_n (pc := 14) (k := 2) (by decide +kernel)) <|
  n_c (s_callVc (s_callV (pc := 15) (csX12_isThing hG) (by decide) okX12_isThing nok12 w_1679 w_49 w_1677 (by decide +kernel)) (gk107 hG)) <|
  n_c (s_if_eq (pc := 18) (off := 11) (by decide +kernel) (by decide +kernel)) <|
  n_c (s_aload_n (pc := 21) (k := 0) (by decide +kernel)) <|
  n_c (s_iload_n (pc := 22) (k := 3) (by decide +kernel)) <|
  n_c (s_callVc (s_callV (pc := 23) (csX12_isPlace) (by decide) okX12_isPlace nok12 w_1663 w_47 w_1661 (by decide +kernel)) (gk107 hG)) <|
  n_c (s_if_ne (pc := 26) (off := 5) (by decide +kernel) (by decide +kernel)) <|
  n_c (s_iconst (pc := 29) (n := -1) (by decide +kernel) (by decide +kernel)) <|
  n_c (s_iret (pc := 30) rfl (by decide +kernel)) <|
  n_c (s_iload (pc := 31) (by decide +kernel)) <|
  n_c (s_if_ne (pc := 33) (off := 13) (by decide +kernel) (by decide +kernel)) <|
  n_c (s_aload_n (pc := 36) (k := 0) (by decide +kernel)) <|
  n_c (s_iload_n (pc := 37) (k := 1) (by decide +kernel)) <|
  n_c (s_iload_n (pc := 38) (k := 2) (by decide +kernel)) <|
  n_c (s_iload_n (pc := 39) (k := 3) (by decide +kernel)) <|
  n_c (s_callVc (s_callV (pc := 40) (csX12_palmsOf N hG) (by decide) okX12_palmsOf nok12 w_1871 w_92 w_1869 (by decide +kernel)) (gk107 hG)) <|
  n_c (s_goto (pc := 43) (off := 36) (by decide +kernel) (by decide +kernel)) <|
  n_c (s_iload (pc := 46) (by decide +kernel)) <|
  n_c (s_iconst (pc := 48) (n := 1) (by decide +kernel) (by decide +kernel)) <|
  n_c (s_icmp_ne (pc := 49) (off := 13) (by decide +kernel) (by decide +kernel)) <|
  n_c (s_aload_n (pc := 52) (k := 0) (by decide +kernel)) <|
  n_c (s_iload_n (pc := 53) (k := 1) (by decide +kernel)) <|
  n_c (s_iload_n (pc := 54) (k := 2) (by decide +kernel)) <|
  n_c (s_iload_n (pc := 55) (k := 3) (by decide +kernel)) <|
  n_c (s_callVc (s_callV (pc := 56) (csX12_farOf N hG) (by decide) okX12_farOf nok12 w_1909 w_101 w_1907 (by decide +kernel)) (gk107 hG)) <|
  n_c (s_goto (pc := 59) (off := 20) (by decide +kernel) (by decide +kernel)) <|
  n_c (s_iload (pc := 62) (by decide +kernel)) <|
  n_c (s_iconst (pc := 64) (n := 2) (by decide +kernel) (by decide +kernel)) <|
  n_c (s_icmp_ne (pc := 65) (off := 13) (by decide +kernel) (by decide +kernel)) <|
  n_c (s_aload_n (pc := 68) (k := 0) (by decide +kernel)) <|
  n_c (s_iload_n (pc := 69) (k := 1) (by decide +kernel)) <|
  n_c (s_iload_n (pc := 70) (k := 2) (by decide +kernel)) <|
  n_c (s_iload_n (pc := 71) (k := 3) (by decide +kernel)) <|
  n_c (s_callVc (s_callV (pc := 72) (csX12_findsOf N hG) (by decide) okX12_findsOf nok12 w_1925 w_104 w_1923 (by decide +kernel)) (gk107 hG)) <|
  n_c (s_goto (pc := 75) (off := 4) (by decide +kernel) (by decide +kernel)) <|
  n_c (s_iconst (pc := 78) (n := -1) (by decide +kernel) (by decide +kernel)) <|
  n_c (s_iret (pc := 79) rfl (by decide +kernel)) <|
  n_e
def fX12_tells (N : Nat) (x1 : Int32) (x2 : Int32) (x3 : Int32) (x4 : Int32) (M : nM) : Option (Int32 × nM) :=
  let M1 : nM := n_up M 107 0 (0 : Int32)
  (fX12_isPerson x1 M1).bind fun p2 =>
  if p2.1 = 0 then
    some ((-1 : Int32), p2.2)
  else
    (fX12_isThing x2 p2.2).bind fun p3 =>
    if p3.1 = 0 then
      some ((-1 : Int32), p3.2)
    else
      (fX12_isPlace x3 p3.2).bind fun p4 =>
      if ¬ p4.1 = 0 then
        if ¬ x4 = 0 then
          if ¬ x4 = (1 : Int32) then
            if ¬ x4 = (2 : Int32) then
              some ((-1 : Int32), p4.2)
            else
              (fX12_findsOf N x1 x2 x3 p4.2).bind fun p5 =>
              some (p5.1, p5.2)
          else
            (fX12_farOf N x1 x2 x3 p4.2).bind fun p6 =>
            some (p6.1, p6.2)
        else
          (fX12_palmsOf N x1 x2 x3 p4.2).bind fun p7 =>
          some (p7.1, p7.2)
      else
        some ((-1 : Int32), p4.2)
set_option maxRecDepth 200000 in
theorem bX12_tells_0 {l : Launch} {w : nW} (N : Nat) {G : nG} (hG : n_GOK G) (x1 : Int32) (x2 : Int32) (x3 : Int32) (x4 : Int32) (M : nM) (r : Int32 × nM) (h : fX12_tells N x1 x2 x3 x4 M = some r) : n_At l w 5 mX12_tells 0 [(0, .ref 107), (1, .int x1), (2, .int x2), (3, .int x3), (4, .int x4)] [] (G, M) (dv_i r.1, (G, r.2)) :=
  n_seg (fin := n_fin dv_i G) (K := []) 55 (iX12_tells N hG) n_ke (by rfl) h
theorem eX12_tells {l : Launch} {w : nW} (N : Nat) {G : nG} (hG : n_GOK G) (z1 : Int32) (z2 : Int32) (z3 : Int32) (z4 : Int32) (M : nM) (r : Int32 × nM) (h : fX12_tells N z1 z2 z3 z4 M = some r) : n_Met l w 5 mX12_tells [.ref 107, .int z1, .int z2, .int z3, .int z4] (G, M) (dv_i r.1, (G, r.2)) :=
  n_entry (by decide +kernel) rfl (Nat.le_of_ble_eq_true rfl) (n_sub (lv := [(0, .ref 107), (1, .int z1), (2, .int z2), (3, .int z3), (4, .int z4)]) (n_qc rfl (n_qc rfl (n_qc rfl (n_qc rfl (n_qc rfl n_qe))))) (bX12_tells_0 N hG z1 z2 z3 z4 M r h))
abbrev hX12_tells (N : Nat) : nF := fun T as M k => n_pC 107 as (fun as => n_pI as (fun z1 as => n_pI as (fun z2 as => n_pI as (fun z3 as => n_pI as (fun z4 as => n_pE as ((fX12_tells N z1 z2 z3 z4 M).bind fun p => k (dv_i p.1) p.2))))))
theorem csX12_tells {l : Launch} {w : nW} (N : Nat) {G : nG} (hG : n_GOK G) : n_CS l w 5 mX12_tells G (hX12_tells N) := fun T as M k r h => by
  obtain ⟨t0, rfl, h1⟩ := n_pC_x h
  obtain ⟨z1, t1, rfl, h2⟩ := n_pI_x h1
  obtain ⟨z2, t2, rfl, h3⟩ := n_pI_x h2
  obtain ⟨z3, t3, rfl, h4⟩ := n_pI_x h3
  obtain ⟨z4, t4, rfl, h5⟩ := n_pI_x h4
  obtain ⟨rfl, hE⟩ := n_pE_x h5
  obtain ⟨p, hp, hk⟩ := Option.bind_eq_some_iff.mp hE
  exact ⟨_, _, eX12_tells N hG z1 z2 z3 z4 M p hp, hk⟩
/-! ===== SleightHouse.book(II)I ===== -/
def mX11_book : nY := (RX11, yX11_book, cX11_book, 3, some .int)
theorem okX11_book : n_MOK mX11_book 2 := ⟨w_1101, w_137, ⟨by decide +kernel, by decide +kernel, by decide +kernel⟩, by decide⟩
abbrev aX11_book (G : nG) : List (Nat × nO (Int32 × nM)) := [(0, o_iload 1 1), (1, o_aload 0 2), (2, o_gRc 1 2 5), (5, o_gRc 2 9 8), (8, o_gIc 9 11 11), (11, oc_ge 29 14), (14, o_aload 0 15), (15, o_gRc 1 2 18), (18, o_gRc 2 14 21), (21, o_iload 1 22), (22, o_iload 2 23), (23, o_callVc 14 2 (hX7_cell G) 26), (26, o_goto 30), (29, o_push (.int (-1 : Int32)) 30), (30, o_iret)]
set_option maxRecDepth 200000 in
theorem iX11_book {l : Launch} {w : nW} {G : nG} (hG : n_GOK G) : n_AllS l w 1 mX11_book G (n_fin dv_i G) (aX11_book G) :=
  n_c (s_iload_n (pc := 0) (k := 1) (by decide +kernel)) <|
  n_c (s_aload_n (pc := 1) (k := 0) (by decide +kernel)) <|
  n_c (s_gRc (s_getR (pc := 2) (ci := 11) (k := 0) (idx := 10) nok11 (by decide) rfl (by decide +kernel) w_572) (gk1 hG) (gm1_0 hG)) <|
  n_c (s_gRc (s_getR (pc := 5) (ci := 1) (k := 1) (idx := 77) nok1 (by decide) rfl (by decide +kernel) w_406) (gk2 hG) (gm2_1 hG)) <|
  n_c (s_gIc (s_getI (pc := 8) (ci := 4) (k := 11) (idx := 262) nok4 (by decide) rfl (by decide +kernel) w_262) (gk9 hG)) <|
  n_c (s_icmp_ge (pc := 11) (off := 18) (by decide +kernel) (by decide +kernel)) <|
  n_c (s_aload_n (pc := 14) (k := 0) (by decide +kernel)) <|
  n_c (s_gRc (s_getR (pc := 15) (ci := 11) (k := 0) (idx := 10) nok11 (by decide) rfl (by decide +kernel) w_572) (gk1 hG) (gm1_0 hG)) <|
  n_c (s_gRc (s_getR (pc := 18) (ci := 1) (k := 2) (idx := 263) nok1 (by decide) rfl (by decide +kernel) w_409) (gk2 hG) (gm2_2 hG)) <|
  n_c (s_iload_n (pc := 21) (k := 1) (by decide +kernel)) <|
  n_c (s_iload_n (pc := 22) (k := 2) (by decide +kernel)) <|
  n_c (s_callVc (s_callV (pc := 23) (csX7_cell) (by decide) okX7_cell nok7 w_786 w_787 w_1102 (by decide +kernel)) (gk14 hG)) <|
  n_c (s_goto (pc := 26) (off := 4) (by decide +kernel) (by decide +kernel)) <|
  n_c (s_iconst (pc := 29) (n := -1) (by decide +kernel) (by decide +kernel)) <|
  n_c (s_iret (pc := 30) rfl (by decide +kernel)) <|
  n_e
def fX11_book (G : nG) (x1 : Int32) (x2 : Int32) (M : nM) : Option (Int32 × nM) :=
  if (M 9 11) ≤ x1 then
    some ((-1 : Int32), M)
  else
    (fX7_cell G 14 x1 x2 M).bind fun p1 =>
    some (p1.1, p1.2)
set_option maxRecDepth 200000 in
theorem bX11_book_0 {l : Launch} {w : nW} {G : nG} (hG : n_GOK G) (x1 : Int32) (x2 : Int32) (M : nM) (r : Int32 × nM) (h : fX11_book G x1 x2 M = some r) : n_At l w 1 mX11_book 0 [(0, .ref 1), (1, .int x1), (2, .int x2)] [] (G, M) (dv_i r.1, (G, r.2)) :=
  n_seg (fin := n_fin dv_i G) (K := []) 19 (iX11_book hG) n_ke (by rfl) h
theorem eX11_book {l : Launch} {w : nW} {G : nG} (hG : n_GOK G) (z1 : Int32) (z2 : Int32) (M : nM) (r : Int32 × nM) (h : fX11_book G z1 z2 M = some r) : n_Met l w 1 mX11_book [.ref 1, .int z1, .int z2] (G, M) (dv_i r.1, (G, r.2)) :=
  n_entry (by decide +kernel) rfl (Nat.le_of_ble_eq_true rfl) (n_sub (lv := [(0, .ref 1), (1, .int z1), (2, .int z2)]) (n_qc rfl (n_qc rfl (n_qc rfl n_qe))) (bX11_book_0 hG z1 z2 M r h))
abbrev hX11_book (G : nG) : nF := fun T as M k => n_pC 1 as (fun as => n_pI as (fun z1 as => n_pI as (fun z2 as => n_pE as ((fX11_book G z1 z2 M).bind fun p => k (dv_i p.1) p.2))))
theorem csX11_book {l : Launch} {w : nW} {G : nG} (hG : n_GOK G) : n_CS l w 1 mX11_book G (hX11_book G) := fun T as M k r h => by
  obtain ⟨t0, rfl, h1⟩ := n_pC_x h
  obtain ⟨z1, t1, rfl, h2⟩ := n_pI_x h1
  obtain ⟨z2, t2, rfl, h3⟩ := n_pI_x h2
  obtain ⟨rfl, hE⟩ := n_pE_x h3
  obtain ⟨p, hp, hk⟩ := Option.bind_eq_some_iff.mp hE
  exact ⟨_, _, eX11_book hG z1 z2 M p hp, hk⟩
/-! ===== SleightHouseModel.book(II)I ===== -/
def mX12_book : nY := (RX12, yX12_book, cX12_book, 3, some .int)
theorem okX12_book : n_MOK mX12_book 2 := ⟨w_1970, w_151, ⟨by decide +kernel, by decide +kernel, by decide +kernel⟩, by decide⟩
abbrev aX12_book : List (Nat × nO (Int32 × nM)) := [(0, o_aload 0 1), (1, o_push (.int (0 : Int32)) 2), (2, o_pIc 107 0 5), (5, o_aload 0 6), (6, o_iload 1 7), (7, o_push (.int (0 : Int32)) 8), (8, o_aload 0 9), (9, o_gRc 107 108 12), (12, o_push (.int (2 : Int32)) 13), (13, o_aldc 108 100 14), (14, o_push (.int (1 : Int32)) 15), (15, o_isub 16), (16, o_callVc 107 3 (hX12_isIn) 19), (19, oi_eq 45 22), (22, o_aload 0 23), (23, o_iload 2 24), (24, o_push (.int (0 : Int32)) 25), (25, o_push (.int (3 : Int32)) 26), (26, o_callVc 107 3 (hX12_isIn) 29), (29, oi_eq 45 32), (32, o_aload 0 33), (33, o_gRc 107 116 36), (36, o_push (.int (4 : Int32)) 37), (37, o_iload 1 38), (38, o_imul 39), (39, o_iload 2 40), (40, o_iadd 41), (41, o_aldc 116 600 42), (42, o_goto 46), (45, o_push (.int (-1 : Int32)) 46), (46, o_iret)]
set_option maxRecDepth 200000 in
theorem iX12_book {l : Launch} {w : nW} {G : nG} (hG : n_GOK G) : n_AllS l w 1 mX12_book G (n_fin dv_i G) (aX12_book) :=
  n_c (s_aload_n (pc := 0) (k := 0) (by decide +kernel)) <|
  n_c (s_iconst (pc := 1) (n := 0) (by decide +kernel) (by decide +kernel)) <|
  n_c (s_pIc (s_putI (pc := 2) (ci := 12) (k := 0) (idx := 146) nok12 (by decide) rfl rfl (by decide +kernel) w_1407) (gk107 hG)) <|
  n_c (s_aload_n (pc := 5) (k := 0) (by decide +kernel)) <|
  n_c (s_iload_n (pc := 6) (k := 1) (by decide +kernel)) <|
  n_c (s_iconst (pc := 7) (n := 0) (by decide +kernel) (by decide +kernel)) <|
  n_c (s_aload_n (pc := 8) (k := 0) (by decide +kernel)) <|
  n_c (s_gRc (s_getR (pc := 9) (ci := 12) (k := 1) (idx := 7) nok12 (by decide) rfl (by decide +kernel) w_1408) (gk107 hG) (gm107_1 hG)) <|
  n_c (s_iconst (pc := 12) (n := 2) (by decide +kernel) (by decide +kernel)) <|
  n_c (s_aldc (s_iaload (pc := 13) (by decide +kernel)) (gk108 hG) (gl108 hG)) <|
  n_c (s_iconst (pc := 14) (n := 1) (by decide +kernel) (by decide +kernel)) <|
  n_c (s_isub (pc := 15) (by decide +kernel)) <|
  n_c (s_callVc (s_callV (pc := 16) (csX12_isIn) (by decide) okX12_isIn nok12 w_1659 w_46 w_1657 (by decide +kernel)) (gk107 hG)) <|
  n_c (s_if_eq (pc := 19) (off := 26) (by decide +kernel) (by decide +kernel)) <|
  n_c (s_aload_n (pc := 22) (k := 0) (by decide +kernel)) <|
  n_c (s_iload_n (pc := 23) (k := 2) (by decide +kernel)) <|
  n_c (s_iconst (pc := 24) (n := 0) (by decide +kernel) (by decide +kernel)) <|
  n_c (s_iconst (pc := 25) (n := 3) (by decide +kernel) (by decide +kernel)) <|
  n_c (s_callVc (s_callV (pc := 26) (csX12_isIn) (by decide) okX12_isIn nok12 w_1659 w_46 w_1657 (by decide +kernel)) (gk107 hG)) <|
  n_c (s_if_eq (pc := 29) (off := 16) (by decide +kernel) (by decide +kernel)) <|
  n_c (s_aload_n (pc := 32) (k := 0) (by decide +kernel)) <|
  n_c (s_gRc (s_getR (pc := 33) (ci := 12) (k := 13) (idx := 34) nok12 (by decide) rfl (by decide +kernel) w_1420) (gk107 hG) (gm107_13 hG)) <|
  n_c (s_iconst (pc := 36) (n := 4) (by decide +kernel) (by decide +kernel)) <|
  n_c (s_iload_n (pc := 37) (k := 1) (by decide +kernel)) <|
  n_c (s_imul (pc := 38) (by decide +kernel)) <|
  n_c (s_iload_n (pc := 39) (k := 2) (by decide +kernel)) <|
  n_c (s_iadd (pc := 40) (by decide +kernel)) <|
  n_c (s_aldc (s_iaload (pc := 41) (by decide +kernel)) (gk116 hG) (gl116 hG)) <|
  n_c (s_goto (pc := 42) (off := 4) (by decide +kernel) (by decide +kernel)) <|
  n_c (s_iconst (pc := 45) (n := -1) (by decide +kernel) (by decide +kernel)) <|
  n_c (s_iret (pc := 46) rfl (by decide +kernel)) <|
  n_e
def fX12_book (x1 : Int32) (x2 : Int32) (M : nM) : Option (Int32 × nM) :=
  let M1 : nM := n_up M 107 0 (0 : Int32)
  n_chk (n_ib 100 (2 : Int32)) <|
  (fX12_isIn x1 (0 : Int32) ((M1 108 (2 : Int32).toNatClampNeg) - (1 : Int32)) M1).bind fun p2 =>
  if p2.1 = 0 then
    some ((-1 : Int32), p2.2)
  else
    (fX12_isIn x2 (0 : Int32) (3 : Int32) p2.2).bind fun p3 =>
    if p3.1 = 0 then
      some ((-1 : Int32), p3.2)
    else
      n_chk (n_ib 600 (((4 : Int32) * x1) + x2)) <|
      some ((p3.2 116 (((4 : Int32) * x1) + x2).toNatClampNeg), p3.2)
set_option maxRecDepth 200000 in
theorem bX12_book_0 {l : Launch} {w : nW} {G : nG} (hG : n_GOK G) (x1 : Int32) (x2 : Int32) (M : nM) (r : Int32 × nM) (h : fX12_book x1 x2 M = some r) : n_At l w 1 mX12_book 0 [(0, .ref 107), (1, .int x1), (2, .int x2)] [] (G, M) (dv_i r.1, (G, r.2)) :=
  n_seg (fin := n_fin dv_i G) (K := []) 37 (iX12_book hG) n_ke (by rfl) h
theorem eX12_book {l : Launch} {w : nW} {G : nG} (hG : n_GOK G) (z1 : Int32) (z2 : Int32) (M : nM) (r : Int32 × nM) (h : fX12_book z1 z2 M = some r) : n_Met l w 1 mX12_book [.ref 107, .int z1, .int z2] (G, M) (dv_i r.1, (G, r.2)) :=
  n_entry (by decide +kernel) rfl (Nat.le_of_ble_eq_true rfl) (n_sub (lv := [(0, .ref 107), (1, .int z1), (2, .int z2)]) (n_qc rfl (n_qc rfl (n_qc rfl n_qe))) (bX12_book_0 hG z1 z2 M r h))
abbrev hX12_book : nF := fun T as M k => n_pC 107 as (fun as => n_pI as (fun z1 as => n_pI as (fun z2 as => n_pE as ((fX12_book z1 z2 M).bind fun p => k (dv_i p.1) p.2))))
theorem csX12_book {l : Launch} {w : nW} {G : nG} (hG : n_GOK G) : n_CS l w 1 mX12_book G (hX12_book) := fun T as M k r h => by
  obtain ⟨t0, rfl, h1⟩ := n_pC_x h
  obtain ⟨z1, t1, rfl, h2⟩ := n_pI_x h1
  obtain ⟨z2, t2, rfl, h3⟩ := n_pI_x h2
  obtain ⟨rfl, hE⟩ := n_pE_x h3
  obtain ⟨p, hp, hk⟩ := Option.bind_eq_some_iff.mp hE
  exact ⟨_, _, eX12_book hG z1 z2 M p hp, hk⟩
/-! ===== java/lang/Integer.bitCount(I)I ===== -/
def mJ6_bitCount_0f7a4 : nY := (RJ6, yJ6_bitCount_0f7a4, cJ6_bitCount_0f7a4, 1, some .int)
theorem okJ6_bitCount_0f7a4 : n_MOK mJ6_bitCount_0f7a4 1 := ⟨w_1110, w_158, ⟨by decide +kernel, by decide +kernel, by decide +kernel⟩, by decide⟩
abbrev aJ6_bitCount_0f7a4 : List (Nat × nO (Int32 × nM)) := [(0, o_iload 0 1), (1, o_iload 0 2), (2, o_push (.int (1 : Int32)) 3), (3, o_iushr 4), (4, o_push (.int (1431655765 : Int32)) 7), (7, o_iand 8), (8, o_isub 9), (9, o_istore 1 0 10), (10, o_iload 0 11), (11, o_push (.int (858993459 : Int32)) 14), (14, o_iand 15), (15, o_iload 0 16), (16, o_push (.int (2 : Int32)) 17), (17, o_iushr 18), (18, o_push (.int (858993459 : Int32)) 21), (21, o_iand 22), (22, o_iadd 23), (23, o_istore 1 0 24), (24, o_iload 0 25), (25, o_iload 0 26), (26, o_push (.int (4 : Int32)) 27), (27, o_iushr 28), (28, o_iadd 29), (29, o_push (.int (252645135 : Int32)) 32), (32, o_iand 33), (33, o_istore 1 0 34), (34, o_iload 0 35), (35, o_iload 0 36), (36, o_push (.int (8 : Int32)) 38), (38, o_iushr 39), (39, o_iadd 40), (40, o_istore 1 0 41), (41, o_iload 0 42), (42, o_iload 0 43), (43, o_push (.int (16 : Int32)) 45), (45, o_iushr 46), (46, o_iadd 47), (47, o_istore 1 0 48), (48, o_iload 0 49), (49, o_push (.int (63 : Int32)) 51), (51, o_iand 52), (52, o_iret)]
set_option maxRecDepth 200000 in
theorem iJ6_bitCount_0f7a4 {l : Launch} {w : nW} {G : nG} : n_AllS l w 0 mJ6_bitCount_0f7a4 G (n_fin dv_i G) (aJ6_bitCount_0f7a4) :=
  n_c (s_iload_n (pc := 0) (k := 0) (by decide +kernel)) <|
  n_c (s_iload_n (pc := 1) (k := 0) (by decide +kernel)) <|
  n_c (s_iconst (pc := 2) (n := 1) (by decide +kernel) (by decide +kernel)) <|
  n_c (s_iushr (pc := 3) (by decide +kernel)) <|
  n_c (s_ldcw (pc := 4) (i := 265) (by decide +kernel) w_1111) <|
  n_c (s_iand (pc := 7) (by decide +kernel)) <|
  n_c (s_isub (pc := 8) (by decide +kernel)) <|
  n_c (s_istore_n (pc := 9) (k := 0) (by decide +kernel)) <|
  n_c (s_iload_n (pc := 10) (k := 0) (by decide +kernel)) <|
  n_c (s_ldcw (pc := 11) (i := 266) (by decide +kernel) w_1112) <|
  n_c (s_iand (pc := 14) (by decide +kernel)) <|
  n_c (s_iload_n (pc := 15) (k := 0) (by decide +kernel)) <|
  n_c (s_iconst (pc := 16) (n := 2) (by decide +kernel) (by decide +kernel)) <|
  n_c (s_iushr (pc := 17) (by decide +kernel)) <|
  n_c (s_ldcw (pc := 18) (i := 266) (by decide +kernel) w_1112) <|
  n_c (s_iand (pc := 21) (by decide +kernel)) <|
  n_c (s_iadd (pc := 22) (by decide +kernel)) <|
  n_c (s_istore_n (pc := 23) (k := 0) (by decide +kernel)) <|
  n_c (s_iload_n (pc := 24) (k := 0) (by decide +kernel)) <|
  n_c (s_iload_n (pc := 25) (k := 0) (by decide +kernel)) <|
  n_c (s_iconst (pc := 26) (n := 4) (by decide +kernel) (by decide +kernel)) <|
  n_c (s_iushr (pc := 27) (by decide +kernel)) <|
  n_c (s_iadd (pc := 28) (by decide +kernel)) <|
  n_c (s_ldcw (pc := 29) (i := 267) (by decide +kernel) w_1113) <|
  n_c (s_iand (pc := 32) (by decide +kernel)) <|
  n_c (s_istore_n (pc := 33) (k := 0) (by decide +kernel)) <|
  n_c (s_iload_n (pc := 34) (k := 0) (by decide +kernel)) <|
  n_c (s_iload_n (pc := 35) (k := 0) (by decide +kernel)) <|
  n_c (s_bipush (pc := 36) (n := 8) (by decide +kernel) (by decide +kernel)) <|
  n_c (s_iushr (pc := 38) (by decide +kernel)) <|
  n_c (s_iadd (pc := 39) (by decide +kernel)) <|
  n_c (s_istore_n (pc := 40) (k := 0) (by decide +kernel)) <|
  n_c (s_iload_n (pc := 41) (k := 0) (by decide +kernel)) <|
  n_c (s_iload_n (pc := 42) (k := 0) (by decide +kernel)) <|
  n_c (s_bipush (pc := 43) (n := 16) (by decide +kernel) (by decide +kernel)) <|
  n_c (s_iushr (pc := 45) (by decide +kernel)) <|
  n_c (s_iadd (pc := 46) (by decide +kernel)) <|
  n_c (s_istore_n (pc := 47) (k := 0) (by decide +kernel)) <|
  n_c (s_iload_n (pc := 48) (k := 0) (by decide +kernel)) <|
  n_c (s_bipush (pc := 49) (n := 63) (by decide +kernel) (by decide +kernel)) <|
  n_c (s_iand (pc := 51) (by decide +kernel)) <|
  n_c (s_iret (pc := 52) rfl (by decide +kernel)) <|
  n_e
def fJ6_bitCount_0f7a4 (x0 : Int32) (M : nM) : Option (Int32 × nM) :=
  let v1 : Int32 := (x0 - ((x0.toUInt32 >>> ((1 : Int32).toUInt32 &&& Int32.toUInt32 31)).toInt32 &&& (1431655765 : Int32)))
  let v2 : Int32 := ((v1 &&& (858993459 : Int32)) + ((v1.toUInt32 >>> ((2 : Int32).toUInt32 &&& Int32.toUInt32 31)).toInt32 &&& (858993459 : Int32)))
  let v3 : Int32 := ((v2 + (v2.toUInt32 >>> ((4 : Int32).toUInt32 &&& Int32.toUInt32 31)).toInt32) &&& (252645135 : Int32))
  let v4 : Int32 := (v3 + (v3.toUInt32 >>> ((8 : Int32).toUInt32 &&& Int32.toUInt32 31)).toInt32)
  let v5 : Int32 := (v4 + (v4.toUInt32 >>> ((16 : Int32).toUInt32 &&& Int32.toUInt32 31)).toInt32)
  some ((v5 &&& (63 : Int32)), M)
set_option maxRecDepth 200000 in
theorem bJ6_bitCount_0f7a4_0 {l : Launch} {w : nW} {G : nG} (x0 : Int32) (M : nM) (r : Int32 × nM) (h : fJ6_bitCount_0f7a4 x0 M = some r) : n_At l w 0 mJ6_bitCount_0f7a4 0 [(0, .int x0)] [] (G, M) (dv_i r.1, (G, r.2)) :=
  n_seg (fin := n_fin dv_i G) (K := []) 45 (iJ6_bitCount_0f7a4) n_ke (by rfl) h
theorem eJ6_bitCount_0f7a4 {l : Launch} {w : nW} {G : nG} (z0 : Int32) (M : nM) (r : Int32 × nM) (h : fJ6_bitCount_0f7a4 z0 M = some r) : n_Met l w 0 mJ6_bitCount_0f7a4 [.int z0] (G, M) (dv_i r.1, (G, r.2)) :=
  n_entry (by decide +kernel) rfl (Nat.le_of_ble_eq_true rfl) (n_sub (lv := [(0, .int z0)]) (n_qc rfl n_qe) (bJ6_bitCount_0f7a4_0 z0 M r h))
abbrev hJ6_bitCount_0f7a4 : nF := fun T as M k => n_pI as (fun z0 as => n_pE as ((fJ6_bitCount_0f7a4 z0 M).bind fun p => k (dv_i p.1) p.2))
theorem csJ6_bitCount_0f7a4 {l : Launch} {w : nW} {G : nG} : n_CS l w 0 mJ6_bitCount_0f7a4 G (hJ6_bitCount_0f7a4) := fun T as M k r h => by
  obtain ⟨z0, t0, rfl, h1⟩ := n_pI_x h
  obtain ⟨rfl, hE⟩ := n_pE_x h1
  obtain ⟨p, hp, hk⟩ := Option.bind_eq_some_iff.mp hE
  exact ⟨_, _, eJ6_bitCount_0f7a4 z0 M p hp, hk⟩
/-! ===== SleightHouse$Moving.sum([I)I ===== -/
def mX4_sum : nY := (RX4, yX4_sum, cX4_sum, 3, some .int)
theorem okX4_sum : n_MOK mX4_sum 1 := ⟨w_1116, w_141, ⟨by decide +kernel, by decide +kernel, by decide +kernel⟩, by decide⟩
abbrev aX4_sum (N : Nat) (G : nG) : List (Nat × nO (Int32 × nM)) := [(0, o_push (.int (0 : Int32)) 1), (1, o_istore 3 1 2), (2, o_push (.int (0 : Int32)) 3), (3, o_istore 3 2 4), (4, o_iload 2 5), (5, o_aload 0 6), (6, o_alen G 14 7), (7, oc_ge 22 10), (10, o_iload 1 11), (11, o_aload 0 12), (12, o_iload 2 13), (13, o_ald G 14 14), (14, o_iadd 15), (15, o_istore 3 1 16), (16, o_inc 3 2 (1 : Int32) 19), (19, o_goto 4), (22, o_iload 1 23), (23, o_iret)]
set_option maxRecDepth 200000 in
theorem iX4_sum {l : Launch} {w : nW} (N : Nat) {G : nG} : n_AllS l w 0 mX4_sum G (n_fin dv_i G) (aX4_sum N G) :=
  n_c (s_iconst (pc := 0) (n := 0) (by decide +kernel) (by decide +kernel)) <|
  n_c (s_istore_n (pc := 1) (k := 1) (by decide +kernel)) <|
  n_c (s_iconst (pc := 2) (n := 0) (by decide +kernel) (by decide +kernel)) <|
  n_c (s_istore_n (pc := 3) (k := 2) (by decide +kernel)) <|
  n_c (s_iload_n (pc := 4) (k := 2) (by decide +kernel)) <|
  n_c (s_aload_n (pc := 5) (k := 0) (by decide +kernel)) <|
  n_c (s_alenI (pc := 6) (by decide +kernel)) <|
  n_c (s_icmp_ge (pc := 7) (off := 15) (by decide +kernel) (by decide +kernel)) <|
  n_c (s_iload_n (pc := 10) (k := 1) (by decide +kernel)) <|
  n_c (s_aload_n (pc := 11) (k := 0) (by decide +kernel)) <|
  n_c (s_iload_n (pc := 12) (k := 2) (by decide +kernel)) <|
  n_c (s_iaload (pc := 13) (by decide +kernel)) <|
  n_c (s_iadd (pc := 14) (by decide +kernel)) <|
  n_c (s_istore_n (pc := 15) (k := 1) (by decide +kernel)) <|
  n_c (s_iinc (pc := 16) (n := 1) (by decide +kernel) (by decide +kernel)) <|
  n_c (s_goto (pc := 19) (off := -15) (by decide +kernel) (by decide +kernel)) <|
  n_c (s_iload_n (pc := 22) (k := 1) (by decide +kernel)) <|
  n_c (s_iret (pc := 23) rfl (by decide +kernel)) <|
  n_e
def fX4_sum_4 (N : Nat) (G : nG) : Nat → Nat → Int32 → Int32 → nM → Option (Int32 × nM)
  | 0, _, _, _, _ => none
  | n + 1, x0, x1, x2, M =>
    n_chk (Nat.beq (n_kd G x0) 14) <|
    if (Int32.ofNat (n_len G x0)) ≤ x2 then
      some (x1, M)
    else
      n_chk (n_in G 14 x0 x2) <|
      let v1 : Int32 := (x1 + (M x0 x2.toNatClampNeg))
      let v2 : Int32 := (x2 + (1 : Int32))
      fX4_sum_4 N G n x0 v1 v2 M
set_option maxRecDepth 200000 in
theorem bX4_sum_4 {l : Launch} {w : nW} (N : Nat) {G : nG} : ∀ (n : Nat) (x0 : Nat) (x1 : Int32) (x2 : Int32) (M : nM) (r : Int32 × nM), fX4_sum_4 N G n x0 x1 x2 M = some r → n_At l w 0 mX4_sum 4 [(0, .ref x0), (1, .int x1), (2, .int x2)] [] (G, M) (dv_i r.1, (G, r.2)) := by
  intro n
  induction n with
  | zero => intro x0 x1 x2 M r h; cases (show (none : Option (Int32 × nM)) = some r from h)
  | succ n ih =>
    intro x0 x1 x2 M r h
    exact n_seg (fin := n_fin dv_i G) (K := [(4, fun lv st M => n_lR lv 0 (fun x0 => n_lI lv 1 (fun x1 => n_lI lv 2 (fun x2 => n_pE st (fX4_sum_4 N G n x0 x1 x2 M)))))]) 17 (iX4_sum N) (n_kc (fun lv st M r h => by
      obtain ⟨x0, e0, h1⟩ := n_lR_x h
      obtain ⟨x1, e1, h2⟩ := n_lI_x h1
      obtain ⟨x2, e2, h3⟩ := n_lI_x h2
      obtain ⟨rfl, h4⟩ := n_pE_x h3
      exact n_sub (n_qc e0 (n_qc e1 (n_qc e2 n_qe))) (ih x0 x1 x2 M r h4)) n_ke) (by rfl) h
def fX4_sum (N : Nat) (G : nG) (x0 : Nat) (M : nM) : Option (Int32 × nM) :=
  fX4_sum_4 N G N x0 (0 : Int32) (0 : Int32) M
set_option maxRecDepth 200000 in
theorem bX4_sum_0 {l : Launch} {w : nW} (N : Nat) {G : nG} (x0 : Nat) (M : nM) (r : Int32 × nM) (h : fX4_sum N G x0 M = some r) : n_At l w 0 mX4_sum 0 [(0, .ref x0)] [] (G, M) (dv_i r.1, (G, r.2)) :=
  n_seg (fin := n_fin dv_i G) (K := [(4, fun lv st M => n_lR lv 0 (fun x0 => n_lI lv 1 (fun x1 => n_lI lv 2 (fun x2 => n_pE st (fX4_sum_4 N G N x0 x1 x2 M)))))]) 7 (iX4_sum N) (n_kc (fun lv st M r h => by
      obtain ⟨x0, e0, h1⟩ := n_lR_x h
      obtain ⟨x1, e1, h2⟩ := n_lI_x h1
      obtain ⟨x2, e2, h3⟩ := n_lI_x h2
      obtain ⟨rfl, h4⟩ := n_pE_x h3
      exact n_sub (n_qc e0 (n_qc e1 (n_qc e2 n_qe))) (bX4_sum_4 N N x0 x1 x2 M r h4)) n_ke) (by rfl) h
theorem eX4_sum {l : Launch} {w : nW} (N : Nat) {G : nG} (z0 : Nat) (M : nM) (r : Int32 × nM) (h : fX4_sum N G z0 M = some r) : n_Met l w 0 mX4_sum [.ref z0] (G, M) (dv_i r.1, (G, r.2)) :=
  n_entry (by decide +kernel) rfl (Nat.le_of_ble_eq_true rfl) (n_sub (lv := [(0, .ref z0)]) (n_qc rfl n_qe) (bX4_sum_0 N z0 M r h))
abbrev hX4_sum (N : Nat) (G : nG) : nF := fun T as M k => n_pR as (fun z0 as => n_pE as ((fX4_sum N G z0 M).bind fun p => k (dv_i p.1) p.2))
theorem csX4_sum {l : Launch} {w : nW} (N : Nat) {G : nG} : n_CS l w 0 mX4_sum G (hX4_sum N G) := fun T as M k r h => by
  obtain ⟨z0, t0, rfl, h1⟩ := n_pR_x h
  obtain ⟨rfl, hE⟩ := n_pE_x h1
  obtain ⟨p, hp, hk⟩ := Option.bind_eq_some_iff.mp hE
  exact ⟨_, _, eX4_sum N z0 M p hp, hk⟩
/-! ===== SleightHouse.goes(II)I ===== -/
def mX11_goes : nY := (RX11, yX11_goes, cX11_goes, 4, some .int)
theorem okX11_goes : n_MOK mX11_goes 2 := ⟨w_1106, w_137, ⟨by decide +kernel, by decide +kernel, by decide +kernel⟩, by decide⟩
abbrev aX11_goes (N : Nat) (G : nG) : List (Nat × nO (Int32 × nM)) := [(0, o_iload 1 1), (1, o_push (.int (1 : Int32)) 2), (2, o_push (.int (60 : Int32)) 4), (4, o_call 3 (hX11_within) 7), (7, oi_eq 19 10), (10, o_iload 2 11), (11, o_push (.int (0 : Int32)) 12), (12, o_push (.int (3 : Int32)) 13), (13, o_call 3 (hX11_within) 16), (16, oi_ne 21 19), (19, o_push (.int (-1 : Int32)) 20), (20, o_iret), (21, o_aload 0 22), (22, o_gRc 1 93 25), (25, o_aload 0 26), (26, o_gRc 1 2 29), (29, o_gRc 2 9 32), (32, o_callVc 93 1 (hX4_copyFrom G) 35), (35, o_push (.int (0 : Int32)) 36), (36, o_istore 4 3 37), (37, o_iload 3 38), (38, o_iload 1 39), (39, oc_ge 60 42), (42, o_aload 0 43), (43, o_gRc 1 45 46), (46, o_aload 0 47), (47, o_gRc 1 93 50), (50, o_callVc 45 1 (hX0_passHour N G) 53), (53, o_pop 54), (54, o_inc 4 3 (1 : Int32) 57), (57, o_goto 37), (60, o_iload 2 61), (61, o_sw [((0 : Int32), 88), ((1 : Int32), 96), ((2 : Int32), 107)] 118), (88, o_aload 0 89), (89, o_gRc 1 93 92), (92, o_gIc 93 8 95), (95, o_iret), (96, o_aload 0 97), (97, o_gRc 1 93 100), (100, o_gIc 93 5 103), (103, o_call 1 (hJ6_bitCount_0f7a4) 106), (106, o_iret), (107, o_aload 0 108), (108, o_gRc 1 93 111), (111, o_gRc 93 96 114), (114, o_call 1 (hX4_sum N G) 117), (117, o_iret), (118, o_aload 0 119), (119, o_gRc 1 93 122), (122, o_gRc 93 97 125), (125, o_call 1 (hX4_sum N G) 128), (128, o_iret)]
set_option maxRecDepth 200000 in
theorem iX11_goes {l : Launch} {w : nW} (N : Nat) {G : nG} (hG : n_GOK G) : n_AllS l w 7 mX11_goes G (n_fin dv_i G) (aX11_goes N G) :=
  n_c (s_iload_n (pc := 0) (k := 1) (by decide +kernel)) <|
  n_c (s_iconst (pc := 1) (n := 1) (by decide +kernel) (by decide +kernel)) <|
  n_c (s_bipush (pc := 2) (n := 60) (by decide +kernel) (by decide +kernel)) <|
  n_c (s_callS (pc := 4) (csX11_within) (by decide) okX11_within w_610 w_609 (by decide +kernel)) <|
  n_c (s_if_eq (pc := 7) (off := 12) (by decide +kernel) (by decide +kernel)) <|
  n_c (s_iload_n (pc := 10) (k := 2) (by decide +kernel)) <|
  n_c (s_iconst (pc := 11) (n := 0) (by decide +kernel) (by decide +kernel)) <|
  n_c (s_iconst (pc := 12) (n := 3) (by decide +kernel) (by decide +kernel)) <|
  n_c (s_callS (pc := 13) (csX11_within) (by decide) okX11_within w_610 w_609 (by decide +kernel)) <|
  n_c (s_if_ne (pc := 16) (off := 5) (by decide +kernel) (by decide +kernel)) <|
  n_c (s_iconst (pc := 19) (n := -1) (by decide +kernel) (by decide +kernel)) <|
  n_c (s_iret (pc := 20) rfl (by decide +kernel)) <|
  n_c (s_aload_n (pc := 21) (k := 0) (by decide +kernel)) <|
  n_c (s_gRc (s_getR (pc := 22) (ci := 11) (k := 4) (idx := 50) nok11 (by decide) rfl (by decide +kernel) w_576) (gk1 hG) (gm1_4 hG)) <|
  n_c (s_aload_n (pc := 25) (k := 0) (by decide +kernel)) <|
  n_c (s_gRc (s_getR (pc := 26) (ci := 11) (k := 0) (idx := 10) nok11 (by decide) rfl (by decide +kernel) w_572) (gk1 hG) (gm1_0 hG)) <|
  n_c (s_gRc (s_getR (pc := 29) (ci := 1) (k := 1) (idx := 77) nok1 (by decide) rfl (by decide +kernel) w_406) (gk2 hG) (gm2_1 hG)) <|
  n_c (s_callVc (s_callV (pc := 32) (csX4_copyFrom) (by decide) okX4_copyFrom nok4 w_693 w_694 w_1107 (by decide +kernel)) (gk93 hG)) <|
  n_c (s_iconst (pc := 35) (n := 0) (by decide +kernel) (by decide +kernel)) <|
  n_c (s_istore_n (pc := 36) (k := 3) (by decide +kernel)) <|
  n_c (s_iload_n (pc := 37) (k := 3) (by decide +kernel)) <|
  n_c (s_iload_n (pc := 38) (k := 1) (by decide +kernel)) <|
  n_c (s_icmp_ge (pc := 39) (off := 21) (by decide +kernel) (by decide +kernel)) <|
  n_c (s_aload_n (pc := 42) (k := 0) (by decide +kernel)) <|
  n_c (s_gRc (s_getR (pc := 43) (ci := 11) (k := 1) (idx := 21) nok11 (by decide) rfl (by decide +kernel) w_573) (gk1 hG) (gm1_1 hG)) <|
  n_c (s_aload_n (pc := 46) (k := 0) (by decide +kernel)) <|
  n_c (s_gRc (s_getR (pc := 47) (ci := 11) (k := 4) (idx := 50) nok11 (by decide) rfl (by decide +kernel) w_576) (gk1 hG) (gm1_4 hG)) <|
  n_c (s_callVc (s_callV (pc := 50) (csX0_passHour N hG) (by decide) okX0_passHour nok0 w_782 w_783 w_781 (by decide +kernel)) (gk45 hG)) <|
  n_c (s_pop (pc := 53) (by decide +kernel)) <|
  n_c (s_iinc (pc := 54) (n := 1) (by decide +kernel) (by decide +kernel)) <|
  n_c (s_goto (pc := 57) (off := -20) (by decide +kernel) (by decide +kernel)) <|
  n_c (s_iload_n (pc := 60) (k := 2) (by decide +kernel)) <|
  n_c (s_tsw (pc := 61) (dflt := 57) (lo := 0) (hi := 2) (offs := #[27, 35, 46]) (len := 27) (by decide +kernel) (by decide +kernel)) <|
  n_c (s_aload_n (pc := 88) (k := 0) (by decide +kernel)) <|
  n_c (s_gRc (s_getR (pc := 89) (ci := 11) (k := 4) (idx := 50) nok11 (by decide) rfl (by decide +kernel) w_576) (gk1 hG) (gm1_4 hG)) <|
  n_c (s_gIc (s_getI (pc := 92) (ci := 4) (k := 8) (idx := 271) nok4 (by decide) rfl (by decide +kernel) w_253) (gk93 hG)) <|
  n_c (s_iret (pc := 95) rfl (by decide +kernel)) <|
  n_c (s_aload_n (pc := 96) (k := 0) (by decide +kernel)) <|
  n_c (s_gRc (s_getR (pc := 97) (ci := 11) (k := 4) (idx := 50) nok11 (by decide) rfl (by decide +kernel) w_576) (gk1 hG) (gm1_4 hG)) <|
  n_c (s_gIc (s_getI (pc := 100) (ci := 4) (k := 5) (idx := 145) nok4 (by decide) rfl (by decide +kernel) w_244) (gk93 hG)) <|
  n_c (s_callS (pc := 103) (csJ6_bitCount_0f7a4) (by decide) okJ6_bitCount_0f7a4 w_1109 w_1108 (by decide +kernel)) <|
  n_c (s_iret (pc := 106) rfl (by decide +kernel)) <|
  n_c (s_aload_n (pc := 107) (k := 0) (by decide +kernel)) <|
  n_c (s_gRc (s_getR (pc := 108) (ci := 11) (k := 4) (idx := 50) nok11 (by decide) rfl (by decide +kernel) w_576) (gk1 hG) (gm1_4 hG)) <|
  n_c (s_gRc (s_getR (pc := 111) (ci := 4) (k := 3) (idx := 251) nok4 (by decide) rfl (by decide +kernel) w_238) (gk93 hG) (gm93_3 hG)) <|
  n_c (s_callS (pc := 114) (csX4_sum N) (by decide) okX4_sum w_1115 w_1114 (by decide +kernel)) <|
  n_c (s_iret (pc := 117) rfl (by decide +kernel)) <|
  n_c (s_aload_n (pc := 118) (k := 0) (by decide +kernel)) <|
  n_c (s_gRc (s_getR (pc := 119) (ci := 11) (k := 4) (idx := 50) nok11 (by decide) rfl (by decide +kernel) w_576) (gk1 hG) (gm1_4 hG)) <|
  n_c (s_gRc (s_getR (pc := 122) (ci := 4) (k := 4) (idx := 238) nok4 (by decide) rfl (by decide +kernel) w_241) (gk93 hG) (gm93_4 hG)) <|
  n_c (s_callS (pc := 125) (csX4_sum N) (by decide) okX4_sum w_1115 w_1114 (by decide +kernel)) <|
  n_c (s_iret (pc := 128) rfl (by decide +kernel)) <|
  n_e
def fX11_goes_37 (N : Nat) (G : nG) : Nat → Int32 → Int32 → Int32 → nM → Option (Int32 × nM)
  | 0, _, _, _, _ => none
  | n + 1, x1, x2, x3, M =>
    if x1 ≤ x3 then
      if x2 = (0 : Int32) then
        some ((M 93 8), M)
      else
      if x2 = (1 : Int32) then
        (fJ6_bitCount_0f7a4 (M 93 5) M).bind fun p1 =>
        some (p1.1, p1.2)
      else
      if x2 = (2 : Int32) then
        (fX4_sum N G 96 M).bind fun p2 =>
        some (p2.1, p2.2)
      else
      (fX4_sum N G 97 M).bind fun p3 =>
      some (p3.1, p3.2)
    else
      (fX0_passHour N G 93 M).bind fun p4 =>
      let v5 : Int32 := (x3 + (1 : Int32))
      fX11_goes_37 N G n x1 x2 v5 p4.2
set_option maxRecDepth 200000 in
theorem bX11_goes_37 {l : Launch} {w : nW} (N : Nat) {G : nG} (hG : n_GOK G) : ∀ (n : Nat) (x1 : Int32) (x2 : Int32) (x3 : Int32) (M : nM) (r : Int32 × nM), fX11_goes_37 N G n x1 x2 x3 M = some r → n_At l w 7 mX11_goes 37 [(0, .ref 1), (1, .int x1), (2, .int x2), (3, .int x3)] [] (G, M) (dv_i r.1, (G, r.2)) := by
  intro n
  induction n with
  | zero => intro x1 x2 x3 M r h; cases (show (none : Option (Int32 × nM)) = some r from h)
  | succ n ih =>
    intro x1 x2 x3 M r h
    exact n_seg (fin := n_fin dv_i G) (K := [(37, fun lv st M => n_lC 1 lv 0 (n_lI lv 1 (fun x1 => n_lI lv 2 (fun x2 => n_lI lv 3 (fun x3 => n_pE st (fX11_goes_37 N G n x1 x2 x3 M))))))]) 35 (iX11_goes N hG) (n_kc (fun lv st M r h => by
      obtain ⟨e0, h1⟩ := n_lC_x h
      obtain ⟨x1, e1, h2⟩ := n_lI_x h1
      obtain ⟨x2, e2, h3⟩ := n_lI_x h2
      obtain ⟨x3, e3, h4⟩ := n_lI_x h3
      obtain ⟨rfl, h5⟩ := n_pE_x h4
      exact n_sub (n_qc e0 (n_qc e1 (n_qc e2 (n_qc e3 n_qe)))) (ih x1 x2 x3 M r h5)) n_ke) (by rfl) h
def fX11_goes (N : Nat) (G : nG) (x1 : Int32) (x2 : Int32) (M : nM) : Option (Int32 × nM) :=
  (fX11_within x1 (1 : Int32) (60 : Int32) M).bind fun p1 =>
  if p1.1 = 0 then
    some ((-1 : Int32), p1.2)
  else
    (fX11_within x2 (0 : Int32) (3 : Int32) p1.2).bind fun p2 =>
    if ¬ p2.1 = 0 then
      (fX4_copyFrom G 93 9 p2.2).bind fun p3 =>
      fX11_goes_37 N G N x1 x2 (0 : Int32) p3.2
    else
      some ((-1 : Int32), p2.2)
set_option maxRecDepth 200000 in
theorem bX11_goes_0 {l : Launch} {w : nW} (N : Nat) {G : nG} (hG : n_GOK G) (x1 : Int32) (x2 : Int32) (M : nM) (r : Int32 × nM) (h : fX11_goes N G x1 x2 M = some r) : n_At l w 7 mX11_goes 0 [(0, .ref 1), (1, .int x1), (2, .int x2)] [] (G, M) (dv_i r.1, (G, r.2)) :=
  n_seg (fin := n_fin dv_i G) (K := [(37, fun lv st M => n_lC 1 lv 0 (n_lI lv 1 (fun x1 => n_lI lv 2 (fun x2 => n_lI lv 3 (fun x3 => n_pE st (fX11_goes_37 N G N x1 x2 x3 M))))))]) 25 (iX11_goes N hG) (n_kc (fun lv st M r h => by
      obtain ⟨e0, h1⟩ := n_lC_x h
      obtain ⟨x1, e1, h2⟩ := n_lI_x h1
      obtain ⟨x2, e2, h3⟩ := n_lI_x h2
      obtain ⟨x3, e3, h4⟩ := n_lI_x h3
      obtain ⟨rfl, h5⟩ := n_pE_x h4
      exact n_sub (n_qc e0 (n_qc e1 (n_qc e2 (n_qc e3 n_qe)))) (bX11_goes_37 N hG N x1 x2 x3 M r h5)) n_ke) (by rfl) h
theorem eX11_goes {l : Launch} {w : nW} (N : Nat) {G : nG} (hG : n_GOK G) (z1 : Int32) (z2 : Int32) (M : nM) (r : Int32 × nM) (h : fX11_goes N G z1 z2 M = some r) : n_Met l w 7 mX11_goes [.ref 1, .int z1, .int z2] (G, M) (dv_i r.1, (G, r.2)) :=
  n_entry (by decide +kernel) rfl (Nat.le_of_ble_eq_true rfl) (n_sub (lv := [(0, .ref 1), (1, .int z1), (2, .int z2)]) (n_qc rfl (n_qc rfl (n_qc rfl n_qe))) (bX11_goes_0 N hG z1 z2 M r h))
abbrev hX11_goes (N : Nat) (G : nG) : nF := fun T as M k => n_pC 1 as (fun as => n_pI as (fun z1 as => n_pI as (fun z2 as => n_pE as ((fX11_goes N G z1 z2 M).bind fun p => k (dv_i p.1) p.2))))
theorem csX11_goes {l : Launch} {w : nW} (N : Nat) {G : nG} (hG : n_GOK G) : n_CS l w 7 mX11_goes G (hX11_goes N G) := fun T as M k r h => by
  obtain ⟨t0, rfl, h1⟩ := n_pC_x h
  obtain ⟨z1, t1, rfl, h2⟩ := n_pI_x h1
  obtain ⟨z2, t2, rfl, h3⟩ := n_pI_x h2
  obtain ⟨rfl, hE⟩ := n_pE_x h3
  obtain ⟨p, hp, hk⟩ := Option.bind_eq_some_iff.mp hE
  exact ⟨_, _, eX11_goes N hG z1 z2 M p hp, hk⟩
/-! ===== SleightHouseModel.thinks()V ===== -/
def mX12_thinks : nY := (RX12, yX12_thinks, cX12_thinks, 2, none)
theorem okX12_thinks : n_MOK mX12_thinks 0 := ⟨w_1978, w_151, ⟨by decide +kernel, by decide +kernel, by decide +kernel⟩, by decide⟩
abbrev aX12_thinks (N : Nat) : List (Nat × nO (Unit × nM)) := [(0, o_push (.int (0 : Int32)) 1), (1, o_istore 2 1 2), (2, o_iload 1 3), (3, o_push (.int (100 : Int32)) 5), (5, oc_ge 26 8), (8, o_aload 0 9), (9, o_gRc 107 110 12), (12, o_iload 1 13), (13, o_aload 0 14), (14, o_gRc 107 108 17), (17, o_iload 1 18), (18, o_aldc 108 100 19), (19, o_iastc 110 100 20), (20, o_inc 2 1 (1 : Int32) 23), (23, o_goto 2), (26, o_aload 0 27), (27, o_push (.int (1 : Int32)) 28), (28, o_pZc 107 5 31), (31, o_vret)]
set_option maxRecDepth 200000 in
theorem iX12_thinks {l : Launch} {w : nW} (N : Nat) {G : nG} (hG : n_GOK G) : n_AllS l w 0 mX12_thinks G (n_fin dv_v G) (aX12_thinks N) :=
  n_c (s_iconst (pc := 0) (n := 0) (by decide +kernel) (by decide +kernel)) <|
  n_c (s_istore_n (pc := 1) (k := 1) (by decide +kernel)) <|
  n_c (s_iload_n (pc := 2) (k := 1) (by decide +kernel)) <|
  n_c (s_bipush (pc := 3) (n := 100) (by decide +kernel) (by decide +kernel)) <|
  n_c (s_icmp_ge (pc := 5) (off := 21) (by decide +kernel) (by decide +kernel)) <|
  n_c (s_aload_n (pc := 8) (k := 0) (by decide +kernel)) <|
  n_c (s_gRc (s_getR (pc := 9) (ci := 12) (k := 4) (idx := 16) nok12 (by decide) rfl (by decide +kernel) w_1411) (gk107 hG) (gm107_4 hG)) <|
  n_c (s_iload_n (pc := 12) (k := 1) (by decide +kernel)) <|
  n_c (s_aload_n (pc := 13) (k := 0) (by decide +kernel)) <|
  n_c (s_gRc (s_getR (pc := 14) (ci := 12) (k := 1) (idx := 7) nok12 (by decide) rfl (by decide +kernel) w_1408) (gk107 hG) (gm107_1 hG)) <|
  n_c (s_iload_n (pc := 17) (k := 1) (by decide +kernel)) <|
  n_c (s_aldc (s_iaload (pc := 18) (by decide +kernel)) (gk108 hG) (gl108 hG)) <|
  n_c (s_iastc (s_iastore (pc := 19) (by decide +kernel)) (gk110 hG) (gl110 hG)) <|
  n_c (s_iinc (pc := 20) (n := 1) (by decide +kernel) (by decide +kernel)) <|
  n_c (s_goto (pc := 23) (off := -21) (by decide +kernel) (by decide +kernel)) <|
  n_c (s_aload_n (pc := 26) (k := 0) (by decide +kernel)) <|
  n_c (s_iconst (pc := 27) (n := 1) (by decide +kernel) (by decide +kernel)) <|
  n_c (s_pZc (s_putZ (pc := 28) (ci := 12) (k := 5) (idx := 152) nok12 (by decide) rfl rfl (by decide +kernel) w_1412) (gk107 hG)) <|
  n_c (s_vret (pc := 31) rfl (by decide +kernel)) <|
  n_e
def fX12_thinks_2 (N : Nat) : Nat → Int32 → nM → Option (Unit × nM)
  | 0, _, _ => none
  | n + 1, x1, M =>
    if (100 : Int32) ≤ x1 then
      n_chk ((1 : Int32) == 0 || (1 : Int32) == 1) <|
      let M1 : nM := n_up M 107 5 (1 : Int32)
      some ((), M1)
    else
      n_chk (n_ib 100 x1) <|
      n_chk (n_ib 100 x1) <|
      let M2 : nM := n_up M 110 x1.toNatClampNeg (M 108 x1.toNatClampNeg)
      let v3 : Int32 := (x1 + (1 : Int32))
      fX12_thinks_2 N n v3 M2
set_option maxRecDepth 200000 in
theorem bX12_thinks_2 {l : Launch} {w : nW} (N : Nat) {G : nG} (hG : n_GOK G) : ∀ (n : Nat) (x1 : Int32) (M : nM) (r : Unit × nM), fX12_thinks_2 N n x1 M = some r → n_At l w 0 mX12_thinks 2 [(0, .ref 107), (1, .int x1)] [] (G, M) (dv_v r.1, (G, r.2)) := by
  intro n
  induction n with
  | zero => intro x1 M r h; cases (show (none : Option (Unit × nM)) = some r from h)
  | succ n ih =>
    intro x1 M r h
    exact n_seg (fin := n_fin dv_v G) (K := [(2, fun lv st M => n_lC 107 lv 0 (n_lI lv 1 (fun x1 => n_pE st (fX12_thinks_2 N n x1 M))))]) 20 (iX12_thinks N hG) (n_kc (fun lv st M r h => by
      obtain ⟨e0, h1⟩ := n_lC_x h
      obtain ⟨x1, e1, h2⟩ := n_lI_x h1
      obtain ⟨rfl, h3⟩ := n_pE_x h2
      exact n_sub (n_qc e0 (n_qc e1 n_qe)) (ih x1 M r h3)) n_ke) (by rfl) h
def fX12_thinks (N : Nat) (M : nM) : Option (Unit × nM) :=
  fX12_thinks_2 N N (0 : Int32) M
set_option maxRecDepth 200000 in
theorem bX12_thinks_0 {l : Launch} {w : nW} (N : Nat) {G : nG} (hG : n_GOK G) (M : nM) (r : Unit × nM) (h : fX12_thinks N M = some r) : n_At l w 0 mX12_thinks 0 [(0, .ref 107)] [] (G, M) (dv_v r.1, (G, r.2)) :=
  n_seg (fin := n_fin dv_v G) (K := [(2, fun lv st M => n_lC 107 lv 0 (n_lI lv 1 (fun x1 => n_pE st (fX12_thinks_2 N N x1 M))))]) 5 (iX12_thinks N hG) (n_kc (fun lv st M r h => by
      obtain ⟨e0, h1⟩ := n_lC_x h
      obtain ⟨x1, e1, h2⟩ := n_lI_x h1
      obtain ⟨rfl, h3⟩ := n_pE_x h2
      exact n_sub (n_qc e0 (n_qc e1 n_qe)) (bX12_thinks_2 N hG N x1 M r h3)) n_ke) (by rfl) h
theorem eX12_thinks {l : Launch} {w : nW} (N : Nat) {G : nG} (hG : n_GOK G) (M : nM) (r : Unit × nM) (h : fX12_thinks N M = some r) : n_Met l w 0 mX12_thinks [.ref 107] (G, M) (dv_v r.1, (G, r.2)) :=
  n_entry (by decide +kernel) rfl (Nat.le_of_ble_eq_true rfl) (n_sub (lv := [(0, .ref 107)]) (n_qc rfl n_qe) (bX12_thinks_0 N hG M r h))
abbrev hX12_thinks (N : Nat) : nF := fun T as M k => n_pC 107 as (fun as => n_pE as ((fX12_thinks N M).bind fun p => k (dv_v p.1) p.2))
theorem csX12_thinks {l : Launch} {w : nW} (N : Nat) {G : nG} (hG : n_GOK G) : n_CS l w 0 mX12_thinks G (hX12_thinks N) := fun T as M k r h => by
  obtain ⟨t0, rfl, h1⟩ := n_pC_x h
  obtain ⟨rfl, hE⟩ := n_pE_x h1
  obtain ⟨p, hp, hk⟩ := Option.bind_eq_some_iff.mp hE
  exact ⟨_, _, eX12_thinks N hG M p hp, hk⟩
/-! ===== SleightHouseModel.sumOf(II)I ===== -/
def mX12_sumOf : nY := (RX12, yX12_sumOf, cX12_sumOf, 5, some .int)
theorem okX12_sumOf : n_MOK mX12_sumOf 2 := ⟨w_1982, w_151, ⟨by decide +kernel, by decide +kernel, by decide +kernel⟩, by decide⟩
abbrev aX12_sumOf (N : Nat) : List (Nat × nO (Int32 × nM)) := [(0, o_push (.int (0 : Int32)) 1), (1, o_istore 5 3 2), (2, o_push (.int (0 : Int32)) 3), (3, o_istore 5 4 5), (5, o_iload 4 7), (7, o_iload 2 8), (8, oc_ge 29 11), (11, o_iload 3 12), (12, o_aload 0 13), (13, o_gRc 107 108 16), (16, o_iload 1 17), (17, o_iload 4 19), (19, o_iadd 20), (20, o_aldc 108 100 21), (21, o_iadd 22), (22, o_istore 5 3 23), (23, o_inc 5 4 (1 : Int32) 26), (26, o_goto 5), (29, o_iload 3 30), (30, o_iret)]
set_option maxRecDepth 200000 in
theorem iX12_sumOf {l : Launch} {w : nW} (N : Nat) {G : nG} (hG : n_GOK G) : n_AllS l w 0 mX12_sumOf G (n_fin dv_i G) (aX12_sumOf N) :=
  n_c (s_iconst (pc := 0) (n := 0) (by decide +kernel) (by decide +kernel)) <|
  n_c (s_istore_n (pc := 1) (k := 3) (by decide +kernel)) <|
  n_c (s_iconst (pc := 2) (n := 0) (by decide +kernel) (by decide +kernel)) <|
  n_c (s_istore (pc := 3) (by decide +kernel)) <|
  n_c (s_iload (pc := 5) (by decide +kernel)) <|
  n_c (s_iload_n (pc := 7) (k := 2) (by decide +kernel)) <|
  n_c (s_icmp_ge (pc := 8) (off := 21) (by decide +kernel) (by decide +kernel)) <|
  n_c (s_iload_n (pc := 11) (k := 3) (by decide +kernel)) <|
  n_c (s_aload_n (pc := 12) (k := 0) (by decide +kernel)) <|
  n_c (s_gRc (s_getR (pc := 13) (ci := 12) (k := 1) (idx := 7) nok12 (by decide) rfl (by decide +kernel) w_1408) (gk107 hG) (gm107_1 hG)) <|
  n_c (s_iload_n (pc := 16) (k := 1) (by decide +kernel)) <|
  n_c (s_iload (pc := 17) (by decide +kernel)) <|
  n_c (s_iadd (pc := 19) (by decide +kernel)) <|
  n_c (s_aldc (s_iaload (pc := 20) (by decide +kernel)) (gk108 hG) (gl108 hG)) <|
  n_c (s_iadd (pc := 21) (by decide +kernel)) <|
  n_c (s_istore_n (pc := 22) (k := 3) (by decide +kernel)) <|
  n_c (s_iinc (pc := 23) (n := 1) (by decide +kernel) (by decide +kernel)) <|
  n_c (s_goto (pc := 26) (off := -21) (by decide +kernel) (by decide +kernel)) <|
  n_c (s_iload_n (pc := 29) (k := 3) (by decide +kernel)) <|
  n_c (s_iret (pc := 30) rfl (by decide +kernel)) <|
  n_e
def fX12_sumOf_5 (N : Nat) : Nat → Int32 → Int32 → Int32 → Int32 → nM → Option (Int32 × nM)
  | 0, _, _, _, _, _ => none
  | n + 1, x1, x2, x3, x4, M =>
    if x2 ≤ x4 then
      some (x3, M)
    else
      n_chk (n_ib 100 (x1 + x4)) <|
      let v1 : Int32 := (x3 + (M 108 (x1 + x4).toNatClampNeg))
      let v2 : Int32 := (x4 + (1 : Int32))
      fX12_sumOf_5 N n x1 x2 v1 v2 M
set_option maxRecDepth 200000 in
theorem bX12_sumOf_5 {l : Launch} {w : nW} (N : Nat) {G : nG} (hG : n_GOK G) : ∀ (n : Nat) (x1 : Int32) (x2 : Int32) (x3 : Int32) (x4 : Int32) (M : nM) (r : Int32 × nM), fX12_sumOf_5 N n x1 x2 x3 x4 M = some r → n_At l w 0 mX12_sumOf 5 [(0, .ref 107), (1, .int x1), (2, .int x2), (3, .int x3), (4, .int x4)] [] (G, M) (dv_i r.1, (G, r.2)) := by
  intro n
  induction n with
  | zero => intro x1 x2 x3 x4 M r h; cases (show (none : Option (Int32 × nM)) = some r from h)
  | succ n ih =>
    intro x1 x2 x3 x4 M r h
    exact n_seg (fin := n_fin dv_i G) (K := [(5, fun lv st M => n_lC 107 lv 0 (n_lI lv 1 (fun x1 => n_lI lv 2 (fun x2 => n_lI lv 3 (fun x3 => n_lI lv 4 (fun x4 => n_pE st (fX12_sumOf_5 N n x1 x2 x3 x4 M)))))))]) 19 (iX12_sumOf N hG) (n_kc (fun lv st M r h => by
      obtain ⟨e0, h1⟩ := n_lC_x h
      obtain ⟨x1, e1, h2⟩ := n_lI_x h1
      obtain ⟨x2, e2, h3⟩ := n_lI_x h2
      obtain ⟨x3, e3, h4⟩ := n_lI_x h3
      obtain ⟨x4, e4, h5⟩ := n_lI_x h4
      obtain ⟨rfl, h6⟩ := n_pE_x h5
      exact n_sub (n_qc e0 (n_qc e1 (n_qc e2 (n_qc e3 (n_qc e4 n_qe))))) (ih x1 x2 x3 x4 M r h6)) n_ke) (by rfl) h
def fX12_sumOf (N : Nat) (x1 : Int32) (x2 : Int32) (M : nM) : Option (Int32 × nM) :=
  fX12_sumOf_5 N N x1 x2 (0 : Int32) (0 : Int32) M
set_option maxRecDepth 200000 in
theorem bX12_sumOf_0 {l : Launch} {w : nW} (N : Nat) {G : nG} (hG : n_GOK G) (x1 : Int32) (x2 : Int32) (M : nM) (r : Int32 × nM) (h : fX12_sumOf N x1 x2 M = some r) : n_At l w 0 mX12_sumOf 0 [(0, .ref 107), (1, .int x1), (2, .int x2)] [] (G, M) (dv_i r.1, (G, r.2)) :=
  n_seg (fin := n_fin dv_i G) (K := [(5, fun lv st M => n_lC 107 lv 0 (n_lI lv 1 (fun x1 => n_lI lv 2 (fun x2 => n_lI lv 3 (fun x3 => n_lI lv 4 (fun x4 => n_pE st (fX12_sumOf_5 N N x1 x2 x3 x4 M)))))))]) 7 (iX12_sumOf N hG) (n_kc (fun lv st M r h => by
      obtain ⟨e0, h1⟩ := n_lC_x h
      obtain ⟨x1, e1, h2⟩ := n_lI_x h1
      obtain ⟨x2, e2, h3⟩ := n_lI_x h2
      obtain ⟨x3, e3, h4⟩ := n_lI_x h3
      obtain ⟨x4, e4, h5⟩ := n_lI_x h4
      obtain ⟨rfl, h6⟩ := n_pE_x h5
      exact n_sub (n_qc e0 (n_qc e1 (n_qc e2 (n_qc e3 (n_qc e4 n_qe))))) (bX12_sumOf_5 N hG N x1 x2 x3 x4 M r h6)) n_ke) (by rfl) h
theorem eX12_sumOf {l : Launch} {w : nW} (N : Nat) {G : nG} (hG : n_GOK G) (z1 : Int32) (z2 : Int32) (M : nM) (r : Int32 × nM) (h : fX12_sumOf N z1 z2 M = some r) : n_Met l w 0 mX12_sumOf [.ref 107, .int z1, .int z2] (G, M) (dv_i r.1, (G, r.2)) :=
  n_entry (by decide +kernel) rfl (Nat.le_of_ble_eq_true rfl) (n_sub (lv := [(0, .ref 107), (1, .int z1), (2, .int z2)]) (n_qc rfl (n_qc rfl (n_qc rfl n_qe))) (bX12_sumOf_0 N hG z1 z2 M r h))
abbrev hX12_sumOf (N : Nat) : nF := fun T as M k => n_pC 107 as (fun as => n_pI as (fun z1 as => n_pI as (fun z2 as => n_pE as ((fX12_sumOf N z1 z2 M).bind fun p => k (dv_i p.1) p.2))))
theorem csX12_sumOf {l : Launch} {w : nW} (N : Nat) {G : nG} (hG : n_GOK G) : n_CS l w 0 mX12_sumOf G (hX12_sumOf N) := fun T as M k r h => by
  obtain ⟨t0, rfl, h1⟩ := n_pC_x h
  obtain ⟨z1, t1, rfl, h2⟩ := n_pI_x h1
  obtain ⟨z2, t2, rfl, h3⟩ := n_pI_x h2
  obtain ⟨rfl, hE⟩ := n_pE_x h3
  obtain ⟨p, hp, hk⟩ := Option.bind_eq_some_iff.mp hE
  exact ⟨_, _, eX12_sumOf N hG z1 z2 M p hp, hk⟩
/-! ===== SleightHouseModel.endsThought()V ===== -/
def mX12_endsThought : nY := (RX12, yX12_endsThought, cX12_endsThought, 2, none)
theorem okX12_endsThought : n_MOK mX12_endsThought 0 := ⟨w_1986, w_151, ⟨by decide +kernel, by decide +kernel, by decide +kernel⟩, by decide⟩
abbrev aX12_endsThought (N : Nat) : List (Nat × nO (Unit × nM)) := [(0, o_push (.int (0 : Int32)) 1), (1, o_istore 2 1 2), (2, o_iload 1 3), (3, o_push (.int (100 : Int32)) 5), (5, oc_ge 26 8), (8, o_aload 0 9), (9, o_gRc 107 108 12), (12, o_iload 1 13), (13, o_aload 0 14), (14, o_gRc 107 110 17), (17, o_iload 1 18), (18, o_aldc 110 100 19), (19, o_iastc 108 100 20), (20, o_inc 2 1 (1 : Int32) 23), (23, o_goto 2), (26, o_aload 0 27), (27, o_push (.int (0 : Int32)) 28), (28, o_pZc 107 5 31), (31, o_vret)]
set_option maxRecDepth 200000 in
theorem iX12_endsThought {l : Launch} {w : nW} (N : Nat) {G : nG} (hG : n_GOK G) : n_AllS l w 0 mX12_endsThought G (n_fin dv_v G) (aX12_endsThought N) :=
  n_c (s_iconst (pc := 0) (n := 0) (by decide +kernel) (by decide +kernel)) <|
  n_c (s_istore_n (pc := 1) (k := 1) (by decide +kernel)) <|
  n_c (s_iload_n (pc := 2) (k := 1) (by decide +kernel)) <|
  n_c (s_bipush (pc := 3) (n := 100) (by decide +kernel) (by decide +kernel)) <|
  n_c (s_icmp_ge (pc := 5) (off := 21) (by decide +kernel) (by decide +kernel)) <|
  n_c (s_aload_n (pc := 8) (k := 0) (by decide +kernel)) <|
  n_c (s_gRc (s_getR (pc := 9) (ci := 12) (k := 1) (idx := 7) nok12 (by decide) rfl (by decide +kernel) w_1408) (gk107 hG) (gm107_1 hG)) <|
  n_c (s_iload_n (pc := 12) (k := 1) (by decide +kernel)) <|
  n_c (s_aload_n (pc := 13) (k := 0) (by decide +kernel)) <|
  n_c (s_gRc (s_getR (pc := 14) (ci := 12) (k := 4) (idx := 16) nok12 (by decide) rfl (by decide +kernel) w_1411) (gk107 hG) (gm107_4 hG)) <|
  n_c (s_iload_n (pc := 17) (k := 1) (by decide +kernel)) <|
  n_c (s_aldc (s_iaload (pc := 18) (by decide +kernel)) (gk110 hG) (gl110 hG)) <|
  n_c (s_iastc (s_iastore (pc := 19) (by decide +kernel)) (gk108 hG) (gl108 hG)) <|
  n_c (s_iinc (pc := 20) (n := 1) (by decide +kernel) (by decide +kernel)) <|
  n_c (s_goto (pc := 23) (off := -21) (by decide +kernel) (by decide +kernel)) <|
  n_c (s_aload_n (pc := 26) (k := 0) (by decide +kernel)) <|
  n_c (s_iconst (pc := 27) (n := 0) (by decide +kernel) (by decide +kernel)) <|
  n_c (s_pZc (s_putZ (pc := 28) (ci := 12) (k := 5) (idx := 152) nok12 (by decide) rfl rfl (by decide +kernel) w_1412) (gk107 hG)) <|
  n_c (s_vret (pc := 31) rfl (by decide +kernel)) <|
  n_e
def fX12_endsThought_2 (N : Nat) : Nat → Int32 → nM → Option (Unit × nM)
  | 0, _, _ => none
  | n + 1, x1, M =>
    if (100 : Int32) ≤ x1 then
      n_chk ((0 : Int32) == 0 || (0 : Int32) == 1) <|
      let M1 : nM := n_up M 107 5 (0 : Int32)
      some ((), M1)
    else
      n_chk (n_ib 100 x1) <|
      n_chk (n_ib 100 x1) <|
      let M2 : nM := n_up M 108 x1.toNatClampNeg (M 110 x1.toNatClampNeg)
      let v3 : Int32 := (x1 + (1 : Int32))
      fX12_endsThought_2 N n v3 M2
set_option maxRecDepth 200000 in
theorem bX12_endsThought_2 {l : Launch} {w : nW} (N : Nat) {G : nG} (hG : n_GOK G) : ∀ (n : Nat) (x1 : Int32) (M : nM) (r : Unit × nM), fX12_endsThought_2 N n x1 M = some r → n_At l w 0 mX12_endsThought 2 [(0, .ref 107), (1, .int x1)] [] (G, M) (dv_v r.1, (G, r.2)) := by
  intro n
  induction n with
  | zero => intro x1 M r h; cases (show (none : Option (Unit × nM)) = some r from h)
  | succ n ih =>
    intro x1 M r h
    exact n_seg (fin := n_fin dv_v G) (K := [(2, fun lv st M => n_lC 107 lv 0 (n_lI lv 1 (fun x1 => n_pE st (fX12_endsThought_2 N n x1 M))))]) 20 (iX12_endsThought N hG) (n_kc (fun lv st M r h => by
      obtain ⟨e0, h1⟩ := n_lC_x h
      obtain ⟨x1, e1, h2⟩ := n_lI_x h1
      obtain ⟨rfl, h3⟩ := n_pE_x h2
      exact n_sub (n_qc e0 (n_qc e1 n_qe)) (ih x1 M r h3)) n_ke) (by rfl) h
def fX12_endsThought (N : Nat) (M : nM) : Option (Unit × nM) :=
  fX12_endsThought_2 N N (0 : Int32) M
set_option maxRecDepth 200000 in
theorem bX12_endsThought_0 {l : Launch} {w : nW} (N : Nat) {G : nG} (hG : n_GOK G) (M : nM) (r : Unit × nM) (h : fX12_endsThought N M = some r) : n_At l w 0 mX12_endsThought 0 [(0, .ref 107)] [] (G, M) (dv_v r.1, (G, r.2)) :=
  n_seg (fin := n_fin dv_v G) (K := [(2, fun lv st M => n_lC 107 lv 0 (n_lI lv 1 (fun x1 => n_pE st (fX12_endsThought_2 N N x1 M))))]) 5 (iX12_endsThought N hG) (n_kc (fun lv st M r h => by
      obtain ⟨e0, h1⟩ := n_lC_x h
      obtain ⟨x1, e1, h2⟩ := n_lI_x h1
      obtain ⟨rfl, h3⟩ := n_pE_x h2
      exact n_sub (n_qc e0 (n_qc e1 n_qe)) (bX12_endsThought_2 N hG N x1 M r h3)) n_ke) (by rfl) h
theorem eX12_endsThought {l : Launch} {w : nW} (N : Nat) {G : nG} (hG : n_GOK G) (M : nM) (r : Unit × nM) (h : fX12_endsThought N M = some r) : n_Met l w 0 mX12_endsThought [.ref 107] (G, M) (dv_v r.1, (G, r.2)) :=
  n_entry (by decide +kernel) rfl (Nat.le_of_ble_eq_true rfl) (n_sub (lv := [(0, .ref 107)]) (n_qc rfl n_qe) (bX12_endsThought_0 N hG M r h))
abbrev hX12_endsThought (N : Nat) : nF := fun T as M k => n_pC 107 as (fun as => n_pE as ((fX12_endsThought N M).bind fun p => k (dv_v p.1) p.2))
theorem csX12_endsThought {l : Launch} {w : nW} (N : Nat) {G : nG} (hG : n_GOK G) : n_CS l w 0 mX12_endsThought G (hX12_endsThought N) := fun T as M k r h => by
  obtain ⟨t0, rfl, h1⟩ := n_pC_x h
  obtain ⟨rfl, hE⟩ := n_pE_x h1
  obtain ⟨p, hp, hk⟩ := Option.bind_eq_some_iff.mp hE
  exact ⟨_, _, eX12_endsThought N hG M p hp, hk⟩
/-! ===== SleightHouseModel.goes(II)I ===== -/
def mX12_goes : nY := (RX12, yX12_goes, cX12_goes, 4, some .int)
theorem okX12_goes : n_MOK mX12_goes 2 := ⟨w_1974, w_151, ⟨by decide +kernel, by decide +kernel, by decide +kernel⟩, by decide⟩
abbrev aX12_goes (N : Nat) : List (Nat × nO (Int32 × nM)) := [(0, o_aload 0 1), (1, o_push (.int (0 : Int32)) 2), (2, o_pIc 107 0 5), (5, o_aload 0 6), (6, o_iload 1 7), (7, o_push (.int (1 : Int32)) 8), (8, o_push (.int (60 : Int32)) 10), (10, o_callVc 107 3 (hX12_isIn) 13), (13, oi_eq 26 16), (16, o_aload 0 17), (17, o_iload 2 18), (18, o_push (.int (0 : Int32)) 19), (19, o_push (.int (3 : Int32)) 20), (20, o_callVc 107 3 (hX12_isIn) 23), (23, oi_ne 28 26), (26, o_push (.int (-1 : Int32)) 27), (27, o_iret), (28, o_aload 0 29), (29, o_callVc 107 0 (hX12_thinks N) 32), (32, o_push (.int (0 : Int32)) 33), (33, o_istore 4 3 34), (34, o_iload 3 35), (35, o_iload 1 36), (36, oc_ge 50 39), (39, o_aload 0 40), (40, o_callVc 107 0 (hX12_goesBy N) 43), (43, o_pop 44), (44, o_inc 4 3 (1 : Int32) 47), (47, o_goto 34), (50, o_iload 2 51), (51, oi_ne 63 54), (54, o_aload 0 55), (55, o_gRc 107 108 58), (58, o_push (.int (3 : Int32)) 59), (59, o_aldc 108 100 60), (60, o_goto 107), (63, o_iload 2 64), (64, o_push (.int (1 : Int32)) 65), (65, oc_ne 81 68), (68, o_aload 0 69), (69, o_push (.int (60 : Int32)) 71), (71, o_aload 0 72), (72, o_gIc 107 6 75), (75, o_callVc 107 2 (hX12_sumOf N) 78), (78, o_goto 107), (81, o_iload 2 82), (82, o_push (.int (2 : Int32)) 83), (83, oc_ne 99 86), (86, o_aload 0 87), (87, o_push (.int (88 : Int32)) 89), (89, o_aload 0 90), (90, o_gIc 107 7 93), (93, o_callVc 107 2 (hX12_sumOf N) 96), (96, o_goto 107), (99, o_aload 0 100), (100, o_push (.int (16 : Int32)) 102), (102, o_push (.int (12 : Int32)) 104), (104, o_callVc 107 2 (hX12_sumOf N) 107), (107, o_istore 4 3 108), (108, o_aload 0 109), (109, o_callVc 107 0 (hX12_endsThought N) 112), (112, o_iload 3 113), (113, o_iret)]
set_option maxRecDepth 200000 in
theorem iX12_goes {l : Launch} {w : nW} (N : Nat) {G : nG} (hG : n_GOK G) : n_AllS l w 8 mX12_goes G (n_fin dv_i G) (aX12_goes N) :=
  n_c (s_aload_n (pc := 0) (k := 0) (by decide +kernel)) <|
  n_c (s_iconst (pc := 1) (n := 0) (by decide +kernel) (by decide +kernel)) <|
  n_c (s_pIc (s_putI (pc := 2) (ci := 12) (k := 0) (idx := 146) nok12 (by decide) rfl rfl (by decide +kernel) w_1407) (gk107 hG)) <|
  n_c (s_aload_n (pc := 5) (k := 0) (by decide +kernel)) <|
  n_c (s_iload_n (pc := 6) (k := 1) (by decide +kernel)) <|
  n_c (s_iconst (pc := 7) (n := 1) (by decide +kernel) (by decide +kernel)) <|
  n_c (s_bipush (pc := 8) (n := 60) (by decide +kernel) (by decide +kernel)) <|
  n_c (s_callVc (s_callV (pc := 10) (csX12_isIn) (by decide) okX12_isIn nok12 w_1659 w_46 w_1657 (by decide +kernel)) (gk107 hG)) <|
  n_c (s_if_eq (pc := 13) (off := 13) (by decide +kernel) (by decide +kernel)) <|
  n_c (s_aload_n (pc := 16) (k := 0) (by decide +kernel)) <|
  n_c (s_iload_n (pc := 17) (k := 2) (by decide +kernel)) <|
  n_c (s_iconst (pc := 18) (n := 0) (by decide +kernel) (by decide +kernel)) <|
  n_c (s_iconst (pc := 19) (n := 3) (by decide +kernel) (by decide +kernel)) <|
  n_c (s_callVc (s_callV (pc := 20) (csX12_isIn) (by decide) okX12_isIn nok12 w_1659 w_46 w_1657 (by decide +kernel)) (gk107 hG)) <|
  n_c (s_if_ne (pc := 23) (off := 5) (by decide +kernel) (by decide +kernel)) <|
  n_c (s_iconst (pc := 26) (n := -1) (by decide +kernel) (by decide +kernel)) <|
  n_c (s_iret (pc := 27) rfl (by decide +kernel)) <|
  n_c (s_aload_n (pc := 28) (k := 0) (by decide +kernel)) <|
  n_c (s_callVc (s_callV (pc := 29) (csX12_thinks N hG) (by decide) okX12_thinks nok12 w_1977 w_109 w_1975 (by decide +kernel)) (gk107 hG)) <|
  n_c (s_iconst (pc := 32) (n := 0) (by decide +kernel) (by decide +kernel)) <|
  n_c (s_istore_n (pc := 33) (k := 3) (by decide +kernel)) <|
  n_c (s_iload_n (pc := 34) (k := 3) (by decide +kernel)) <|
  n_c (s_iload_n (pc := 35) (k := 1) (by decide +kernel)) <|
  n_c (s_icmp_ge (pc := 36) (off := 14) (by decide +kernel) (by decide +kernel)) <|
  n_c (s_aload_n (pc := 39) (k := 0) (by decide +kernel)) <|
  n_c (s_callVc (s_callV (pc := 40) (csX12_goesBy N hG) (by decide) okX12_goesBy nok12 w_1937 w_105 w_1935 (by decide +kernel)) (gk107 hG)) <|
  n_c (s_pop (pc := 43) (by decide +kernel)) <|
  n_c (s_iinc (pc := 44) (n := 1) (by decide +kernel) (by decide +kernel)) <|
  n_c (s_goto (pc := 47) (off := -13) (by decide +kernel) (by decide +kernel)) <|
  n_c (s_iload_n (pc := 50) (k := 2) (by decide +kernel)) <|
  n_c (s_if_ne (pc := 51) (off := 12) (by decide +kernel) (by decide +kernel)) <|
  n_c (s_aload_n (pc := 54) (k := 0) (by decide +kernel)) <|
  n_c (s_gRc (s_getR (pc := 55) (ci := 12) (k := 1) (idx := 7) nok12 (by decide) rfl (by decide +kernel) w_1408) (gk107 hG) (gm107_1 hG)) <|
  n_c (s_iconst (pc := 58) (n := 3) (by decide +kernel) (by decide +kernel)) <|
  n_c (s_aldc (s_iaload (pc := 59) (by decide +kernel)) (gk108 hG) (gl108 hG)) <|
  n_c (s_goto (pc := 60) (off := 47) (by decide +kernel) (by decide +kernel)) <|
  n_c (s_iload_n (pc := 63) (k := 2) (by decide +kernel)) <|
  n_c (s_iconst (pc := 64) (n := 1) (by decide +kernel) (by decide +kernel)) <|
  n_c (s_icmp_ne (pc := 65) (off := 16) (by decide +kernel) (by decide +kernel)) <|
  n_c (s_aload_n (pc := 68) (k := 0) (by decide +kernel)) <|
  n_c (s_bipush (pc := 69) (n := 60) (by decide +kernel) (by decide +kernel)) <|
  n_c (s_aload_n (pc := 71) (k := 0) (by decide +kernel)) <|
  n_c (s_gIc (s_getI (pc := 72) (ci := 12) (k := 6) (idx := 158) nok12 (by decide) rfl (by decide +kernel) w_1413) (gk107 hG)) <|
  n_c (s_callVc (s_callV (pc := 75) (csX12_sumOf N hG) (by decide) okX12_sumOf nok12 w_1981 w_110 w_1979 (by decide +kernel)) (gk107 hG)) <|
  n_c (s_goto (pc := 78) (off := 29) (by decide +kernel) (by decide +kernel)) <|
  n_c (s_iload_n (pc := 81) (k := 2) (by decide +kernel)) <|
  n_c (s_iconst (pc := 82) (n := 2) (by decide +kernel) (by decide +kernel)) <|
  n_c (s_icmp_ne (pc := 83) (off := 16) (by decide +kernel) (by decide +kernel)) <|
  n_c (s_aload_n (pc := 86) (k := 0) (by decide +kernel)) <|
  n_c (s_bipush (pc := 87) (n := 88) (by decide +kernel) (by decide +kernel)) <|
  n_c (s_aload_n (pc := 89) (k := 0) (by decide +kernel)) <|
  n_c (s_gIc (s_getI (pc := 90) (ci := 12) (k := 7) (idx := 161) nok12 (by decide) rfl (by decide +kernel) w_1414) (gk107 hG)) <|
  n_c (s_callVc (s_callV (pc := 93) (csX12_sumOf N hG) (by decide) okX12_sumOf nok12 w_1981 w_110 w_1979 (by decide +kernel)) (gk107 hG)) <|
  n_c (s_goto (pc := 96) (off := 11) (by decide +kernel) (by decide +kernel)) <|
  n_c (s_aload_n (pc := 99) (k := 0) (by decide +kernel)) <|
  n_c (s_bipush (pc := 100) (n := 16) (by decide +kernel) (by decide +kernel)) <|
  n_c (s_bipush (pc := 102) (n := 12) (by decide +kernel) (by decide +kernel)) <|
  n_c (s_callVc (s_callV (pc := 104) (csX12_sumOf N hG) (by decide) okX12_sumOf nok12 w_1981 w_110 w_1979 (by decide +kernel)) (gk107 hG)) <|
  n_c (s_istore_n (pc := 107) (k := 3) (by decide +kernel)) <|
  n_c (s_aload_n (pc := 108) (k := 0) (by decide +kernel)) <|
  n_c (s_callVc (s_callV (pc := 109) (csX12_endsThought N hG) (by decide) okX12_endsThought nok12 w_1985 w_111 w_1983 (by decide +kernel)) (gk107 hG)) <|
  n_c (s_iload_n (pc := 112) (k := 3) (by decide +kernel)) <|
  n_c (s_iret (pc := 113) rfl (by decide +kernel)) <|
  n_e
def fX12_goes_107 (N : Nat) (s0 : Int32) (M : nM) : Option (Int32 × nM) :=
  (fX12_endsThought N M).bind fun p1 =>
  some (s0, p1.2)
set_option maxRecDepth 200000 in
theorem bX12_goes_107 {l : Launch} {w : nW} (N : Nat) {G : nG} (hG : n_GOK G) (s0 : Int32) (M : nM) (r : Int32 × nM) (h : fX12_goes_107 N s0 M = some r) : n_At l w 8 mX12_goes 107 [(0, .ref 107)] [.int s0] (G, M) (dv_i r.1, (G, r.2)) :=
  n_seg (fin := n_fin dv_i G) (K := []) 8 (iX12_goes N hG) n_ke (by rfl) h
def fX12_goes_34 (N : Nat) : Nat → Int32 → Int32 → Int32 → nM → Option (Int32 × nM)
  | 0, _, _, _, _ => none
  | n + 1, x1, x2, x3, M =>
    if x1 ≤ x3 then
      if ¬ x2 = 0 then
        if ¬ x2 = (1 : Int32) then
          if ¬ x2 = (2 : Int32) then
            (fX12_sumOf N (16 : Int32) (12 : Int32) M).bind fun p1 =>
            fX12_goes_107 N p1.1 p1.2
          else
            (fX12_sumOf N (88 : Int32) (M 107 7) M).bind fun p2 =>
            fX12_goes_107 N p2.1 p2.2
        else
          (fX12_sumOf N (60 : Int32) (M 107 6) M).bind fun p3 =>
          fX12_goes_107 N p3.1 p3.2
      else
        n_chk (n_ib 100 (3 : Int32)) <|
        fX12_goes_107 N (M 108 (3 : Int32).toNatClampNeg) M
    else
      (fX12_goesBy N M).bind fun p4 =>
      let v5 : Int32 := (x3 + (1 : Int32))
      fX12_goes_34 N n x1 x2 v5 p4.2
set_option maxRecDepth 200000 in
theorem bX12_goes_34 {l : Launch} {w : nW} (N : Nat) {G : nG} (hG : n_GOK G) : ∀ (n : Nat) (x1 : Int32) (x2 : Int32) (x3 : Int32) (M : nM) (r : Int32 × nM), fX12_goes_34 N n x1 x2 x3 M = some r → n_At l w 8 mX12_goes 34 [(0, .ref 107), (1, .int x1), (2, .int x2), (3, .int x3)] [] (G, M) (dv_i r.1, (G, r.2)) := by
  intro n
  induction n with
  | zero => intro x1 x2 x3 M r h; cases (show (none : Option (Int32 × nM)) = some r from h)
  | succ n ih =>
    intro x1 x2 x3 M r h
    exact n_seg (fin := n_fin dv_i G) (K := [(34, fun lv st M => n_lC 107 lv 0 (n_lI lv 1 (fun x1 => n_lI lv 2 (fun x2 => n_lI lv 3 (fun x3 => n_pE st (fX12_goes_34 N n x1 x2 x3 M)))))), (107, fun lv st M => n_lC 107 lv 0 (n_pI st (fun s0 st => n_pE st (fX12_goes_107 N s0 M))))]) 40 (iX12_goes N hG) (n_kc (fun lv st M r h => by
      obtain ⟨e0, h1⟩ := n_lC_x h
      obtain ⟨x1, e1, h2⟩ := n_lI_x h1
      obtain ⟨x2, e2, h3⟩ := n_lI_x h2
      obtain ⟨x3, e3, h4⟩ := n_lI_x h3
      obtain ⟨rfl, h5⟩ := n_pE_x h4
      exact n_sub (n_qc e0 (n_qc e1 (n_qc e2 (n_qc e3 n_qe)))) (ih x1 x2 x3 M r h5)) (n_kc (fun lv st M r h => by
      obtain ⟨e0, h1⟩ := n_lC_x h
      obtain ⟨s0, t0, rfl, h2⟩ := n_pI_x h1
      obtain ⟨rfl, h3⟩ := n_pE_x h2
      exact n_sub (n_qc e0 n_qe) (bX12_goes_107 N hG s0 M r h3)) n_ke)) (by rfl) h
def fX12_goes (N : Nat) (x1 : Int32) (x2 : Int32) (M : nM) : Option (Int32 × nM) :=
  let M1 : nM := n_up M 107 0 (0 : Int32)
  (fX12_isIn x1 (1 : Int32) (60 : Int32) M1).bind fun p2 =>
  if p2.1 = 0 then
    some ((-1 : Int32), p2.2)
  else
    (fX12_isIn x2 (0 : Int32) (3 : Int32) p2.2).bind fun p3 =>
    if ¬ p3.1 = 0 then
      (fX12_thinks N p3.2).bind fun p4 =>
      fX12_goes_34 N N x1 x2 (0 : Int32) p4.2
    else
      some ((-1 : Int32), p3.2)
set_option maxRecDepth 200000 in
theorem bX12_goes_0 {l : Launch} {w : nW} (N : Nat) {G : nG} (hG : n_GOK G) (x1 : Int32) (x2 : Int32) (M : nM) (r : Int32 × nM) (h : fX12_goes N x1 x2 M = some r) : n_At l w 8 mX12_goes 0 [(0, .ref 107), (1, .int x1), (2, .int x2)] [] (G, M) (dv_i r.1, (G, r.2)) :=
  n_seg (fin := n_fin dv_i G) (K := [(34, fun lv st M => n_lC 107 lv 0 (n_lI lv 1 (fun x1 => n_lI lv 2 (fun x2 => n_lI lv 3 (fun x3 => n_pE st (fX12_goes_34 N N x1 x2 x3 M))))))]) 26 (iX12_goes N hG) (n_kc (fun lv st M r h => by
      obtain ⟨e0, h1⟩ := n_lC_x h
      obtain ⟨x1, e1, h2⟩ := n_lI_x h1
      obtain ⟨x2, e2, h3⟩ := n_lI_x h2
      obtain ⟨x3, e3, h4⟩ := n_lI_x h3
      obtain ⟨rfl, h5⟩ := n_pE_x h4
      exact n_sub (n_qc e0 (n_qc e1 (n_qc e2 (n_qc e3 n_qe)))) (bX12_goes_34 N hG N x1 x2 x3 M r h5)) n_ke) (by rfl) h
theorem eX12_goes {l : Launch} {w : nW} (N : Nat) {G : nG} (hG : n_GOK G) (z1 : Int32) (z2 : Int32) (M : nM) (r : Int32 × nM) (h : fX12_goes N z1 z2 M = some r) : n_Met l w 8 mX12_goes [.ref 107, .int z1, .int z2] (G, M) (dv_i r.1, (G, r.2)) :=
  n_entry (by decide +kernel) rfl (Nat.le_of_ble_eq_true rfl) (n_sub (lv := [(0, .ref 107), (1, .int z1), (2, .int z2)]) (n_qc rfl (n_qc rfl (n_qc rfl n_qe))) (bX12_goes_0 N hG z1 z2 M r h))
abbrev hX12_goes (N : Nat) : nF := fun T as M k => n_pC 107 as (fun as => n_pI as (fun z1 as => n_pI as (fun z2 as => n_pE as ((fX12_goes N z1 z2 M).bind fun p => k (dv_i p.1) p.2))))
theorem csX12_goes {l : Launch} {w : nW} (N : Nat) {G : nG} (hG : n_GOK G) : n_CS l w 8 mX12_goes G (hX12_goes N) := fun T as M k r h => by
  obtain ⟨t0, rfl, h1⟩ := n_pC_x h
  obtain ⟨z1, t1, rfl, h2⟩ := n_pI_x h1
  obtain ⟨z2, t2, rfl, h3⟩ := n_pI_x h2
  obtain ⟨rfl, hE⟩ := n_pE_x h3
  obtain ⟨p, hp, hk⟩ := Option.bind_eq_some_iff.mp hE
  exact ⟨_, _, eX12_goes N hG z1 z2 M p hp, hk⟩
/-! ===== SleightHouse.where(III)I ===== -/
def mX11_where : nY := (RX11, yX11_where, cX11_where, 4, some .int)
theorem okX11_where : n_MOK mX11_where 3 := ⟨w_1120, w_137, ⟨by decide +kernel, by decide +kernel, by decide +kernel⟩, by decide⟩
abbrev aX11_where (N : Nat) (G : nG) : List (Nat × nO (Int32 × nM)) := [(0, o_aload 0 1), (1, o_gRc 1 45 4), (4, o_aload 0 5), (5, o_gRc 1 2 8), (8, o_gRc 2 9 11), (11, o_iload 1 12), (12, o_iload 2 13), (13, o_iload 3 14), (14, o_callVc 45 4 (hX0_canPut N G) 17), (17, oi_ne 22 20), (20, o_push (.int (-1 : Int32)) 21), (21, o_iret), (22, o_aload 0 23), (23, o_gRc 1 93 26), (26, o_aload 0 27), (27, o_gRc 1 2 30), (30, o_gRc 2 9 33), (33, o_callVc 93 1 (hX4_copyFrom G) 36), (36, o_aload 0 37), (37, o_gRc 1 45 40), (40, o_aload 0 41), (41, o_gRc 1 93 44), (44, o_iload 1 45), (45, o_iload 2 46), (46, o_iload 3 47), (47, o_callVc 45 4 (hX0_putDown N G) 50), (50, o_pop 51), (51, o_aload 0 52), (52, o_gRc 1 93 55), (55, o_gRc 93 94 58), (58, o_iload 2 59), (59, o_aldc 94 16 60), (60, o_iret)]
set_option maxRecDepth 200000 in
theorem iX11_where {l : Launch} {w : nW} (N : Nat) {G : nG} (hG : n_GOK G) : n_AllS l w 5 mX11_where G (n_fin dv_i G) (aX11_where N G) :=
  n_c (s_aload_n (pc := 0) (k := 0) (by decide +kernel)) <|
  n_c (s_gRc (s_getR (pc := 1) (ci := 11) (k := 1) (idx := 21) nok11 (by decide) rfl (by decide +kernel) w_573) (gk1 hG) (gm1_1 hG)) <|
  n_c (s_aload_n (pc := 4) (k := 0) (by decide +kernel)) <|
  n_c (s_gRc (s_getR (pc := 5) (ci := 11) (k := 0) (idx := 10) nok11 (by decide) rfl (by decide +kernel) w_572) (gk1 hG) (gm1_0 hG)) <|
  n_c (s_gRc (s_getR (pc := 8) (ci := 1) (k := 1) (idx := 77) nok1 (by decide) rfl (by decide +kernel) w_406) (gk2 hG) (gm2_1 hG)) <|
  n_c (s_iload_n (pc := 11) (k := 1) (by decide +kernel)) <|
  n_c (s_iload_n (pc := 12) (k := 2) (by decide +kernel)) <|
  n_c (s_iload_n (pc := 13) (k := 3) (by decide +kernel)) <|
  n_c (s_callVc (s_callV (pc := 14) (csX0_canPut N hG) (by decide) okX0_canPut nok0 w_668 w_669 w_667 (by decide +kernel)) (gk45 hG)) <|
  n_c (s_if_ne (pc := 17) (off := 5) (by decide +kernel) (by decide +kernel)) <|
  n_c (s_iconst (pc := 20) (n := -1) (by decide +kernel) (by decide +kernel)) <|
  n_c (s_iret (pc := 21) rfl (by decide +kernel)) <|
  n_c (s_aload_n (pc := 22) (k := 0) (by decide +kernel)) <|
  n_c (s_gRc (s_getR (pc := 23) (ci := 11) (k := 4) (idx := 50) nok11 (by decide) rfl (by decide +kernel) w_576) (gk1 hG) (gm1_4 hG)) <|
  n_c (s_aload_n (pc := 26) (k := 0) (by decide +kernel)) <|
  n_c (s_gRc (s_getR (pc := 27) (ci := 11) (k := 0) (idx := 10) nok11 (by decide) rfl (by decide +kernel) w_572) (gk1 hG) (gm1_0 hG)) <|
  n_c (s_gRc (s_getR (pc := 30) (ci := 1) (k := 1) (idx := 77) nok1 (by decide) rfl (by decide +kernel) w_406) (gk2 hG) (gm2_1 hG)) <|
  n_c (s_callVc (s_callV (pc := 33) (csX4_copyFrom) (by decide) okX4_copyFrom nok4 w_693 w_694 w_1107 (by decide +kernel)) (gk93 hG)) <|
  n_c (s_aload_n (pc := 36) (k := 0) (by decide +kernel)) <|
  n_c (s_gRc (s_getR (pc := 37) (ci := 11) (k := 1) (idx := 21) nok11 (by decide) rfl (by decide +kernel) w_573) (gk1 hG) (gm1_1 hG)) <|
  n_c (s_aload_n (pc := 40) (k := 0) (by decide +kernel)) <|
  n_c (s_gRc (s_getR (pc := 41) (ci := 11) (k := 4) (idx := 50) nok11 (by decide) rfl (by decide +kernel) w_576) (gk1 hG) (gm1_4 hG)) <|
  n_c (s_iload_n (pc := 44) (k := 1) (by decide +kernel)) <|
  n_c (s_iload_n (pc := 45) (k := 2) (by decide +kernel)) <|
  n_c (s_iload_n (pc := 46) (k := 3) (by decide +kernel)) <|
  n_c (s_callVc (s_callV (pc := 47) (csX0_putDown N hG) (by decide) okX0_putDown nok0 w_701 w_702 w_700 (by decide +kernel)) (gk45 hG)) <|
  n_c (s_pop (pc := 50) (by decide +kernel)) <|
  n_c (s_aload_n (pc := 51) (k := 0) (by decide +kernel)) <|
  n_c (s_gRc (s_getR (pc := 52) (ci := 11) (k := 4) (idx := 50) nok11 (by decide) rfl (by decide +kernel) w_576) (gk1 hG) (gm1_4 hG)) <|
  n_c (s_gRc (s_getR (pc := 55) (ci := 4) (k := 1) (idx := 163) nok4 (by decide) rfl (by decide +kernel) w_232) (gk93 hG) (gm93_1 hG)) <|
  n_c (s_iload_n (pc := 58) (k := 2) (by decide +kernel)) <|
  n_c (s_aldc (s_iaload (pc := 59) (by decide +kernel)) (gk94 hG) (gl94 hG)) <|
  n_c (s_iret (pc := 60) rfl (by decide +kernel)) <|
  n_e
def fX11_where (N : Nat) (G : nG) (x1 : Int32) (x2 : Int32) (x3 : Int32) (M : nM) : Option (Int32 × nM) :=
  (fX0_canPut N G 9 x1 x2 x3 M).bind fun p1 =>
  if ¬ p1.1 = 0 then
    (fX4_copyFrom G 93 9 p1.2).bind fun p2 =>
    (fX0_putDown N G 93 x1 x2 x3 p2.2).bind fun p3 =>
    n_chk (n_ib 16 x2) <|
    some ((p3.2 94 x2.toNatClampNeg), p3.2)
  else
    some ((-1 : Int32), p1.2)
set_option maxRecDepth 200000 in
theorem bX11_where_0 {l : Launch} {w : nW} (N : Nat) {G : nG} (hG : n_GOK G) (x1 : Int32) (x2 : Int32) (x3 : Int32) (M : nM) (r : Int32 × nM) (h : fX11_where N G x1 x2 x3 M = some r) : n_At l w 5 mX11_where 0 [(0, .ref 1), (1, .int x1), (2, .int x2), (3, .int x3)] [] (G, M) (dv_i r.1, (G, r.2)) :=
  n_seg (fin := n_fin dv_i G) (K := []) 36 (iX11_where N hG) n_ke (by rfl) h
theorem eX11_where {l : Launch} {w : nW} (N : Nat) {G : nG} (hG : n_GOK G) (z1 : Int32) (z2 : Int32) (z3 : Int32) (M : nM) (r : Int32 × nM) (h : fX11_where N G z1 z2 z3 M = some r) : n_Met l w 5 mX11_where [.ref 1, .int z1, .int z2, .int z3] (G, M) (dv_i r.1, (G, r.2)) :=
  n_entry (by decide +kernel) rfl (Nat.le_of_ble_eq_true rfl) (n_sub (lv := [(0, .ref 1), (1, .int z1), (2, .int z2), (3, .int z3)]) (n_qc rfl (n_qc rfl (n_qc rfl (n_qc rfl n_qe)))) (bX11_where_0 N hG z1 z2 z3 M r h))
abbrev hX11_where (N : Nat) (G : nG) : nF := fun T as M k => n_pC 1 as (fun as => n_pI as (fun z1 as => n_pI as (fun z2 as => n_pI as (fun z3 as => n_pE as ((fX11_where N G z1 z2 z3 M).bind fun p => k (dv_i p.1) p.2)))))
theorem csX11_where {l : Launch} {w : nW} (N : Nat) {G : nG} (hG : n_GOK G) : n_CS l w 5 mX11_where G (hX11_where N G) := fun T as M k r h => by
  obtain ⟨t0, rfl, h1⟩ := n_pC_x h
  obtain ⟨z1, t1, rfl, h2⟩ := n_pI_x h1
  obtain ⟨z2, t2, rfl, h3⟩ := n_pI_x h2
  obtain ⟨z3, t3, rfl, h4⟩ := n_pI_x h3
  obtain ⟨rfl, hE⟩ := n_pE_x h4
  obtain ⟨p, hp, hk⟩ := Option.bind_eq_some_iff.mp hE
  exact ⟨_, _, eX11_where N hG z1 z2 z3 M p hp, hk⟩
/-! ===== SleightHouseModel.where(III)I ===== -/
def mX12_where : nY := (RX12, yX12_where, cX12_where, 5, some .int)
theorem okX12_where : n_MOK mX12_where 3 := ⟨w_1990, w_151, ⟨by decide +kernel, by decide +kernel, by decide +kernel⟩, by decide⟩
abbrev aX12_where (N : Nat) : List (Nat × nO (Int32 × nM)) := [(0, o_aload 0 1), (1, o_push (.int (0 : Int32)) 2), (2, o_pIc 107 0 5), (5, o_aload 0 6), (6, o_iload 1 7), (7, o_iload 2 8), (8, o_iload 3 9), (9, o_callVc 107 3 (hX12_canPut N) 12), (12, oi_ne 17 15), (15, o_push (.int (-1 : Int32)) 16), (16, o_iret), (17, o_aload 0 18), (18, o_callVc 107 0 (hX12_thinks N) 21), (21, o_aload 0 22), (22, o_iload 1 23), (23, o_iload 2 24), (24, o_iload 3 25), (25, o_callVc 107 3 (hX12_isPut N) 28), (28, o_pop 29), (29, o_aload 0 30), (30, o_gRc 107 108 33), (33, o_push (.int (28 : Int32)) 35), (35, o_iload 2 36), (36, o_iadd 37), (37, o_aldc 108 100 38), (38, o_istore 5 4 40), (40, o_aload 0 41), (41, o_callVc 107 0 (hX12_endsThought N) 44), (44, o_iload 4 46), (46, o_iret)]
set_option maxRecDepth 200000 in
theorem iX12_where {l : Launch} {w : nW} (N : Nat) {G : nG} (hG : n_GOK G) : n_AllS l w 7 mX12_where G (n_fin dv_i G) (aX12_where N) :=
  n_c (s_aload_n (pc := 0) (k := 0) (by decide +kernel)) <|
  n_c (s_iconst (pc := 1) (n := 0) (by decide +kernel) (by decide +kernel)) <|
  n_c (s_pIc (s_putI (pc := 2) (ci := 12) (k := 0) (idx := 146) nok12 (by decide) rfl rfl (by decide +kernel) w_1407) (gk107 hG)) <|
  n_c (s_aload_n (pc := 5) (k := 0) (by decide +kernel)) <|
  n_c (s_iload_n (pc := 6) (k := 1) (by decide +kernel)) <|
  n_c (s_iload_n (pc := 7) (k := 2) (by decide +kernel)) <|
  n_c (s_iload_n (pc := 8) (k := 3) (by decide +kernel)) <|
  n_c (s_callVc (s_callV (pc := 9) (csX12_canPut N hG) (by decide) okX12_canPut nok12 w_1843 w_85 w_1841 (by decide +kernel)) (gk107 hG)) <|
  n_c (s_if_ne (pc := 12) (off := 5) (by decide +kernel) (by decide +kernel)) <|
  n_c (s_iconst (pc := 15) (n := -1) (by decide +kernel) (by decide +kernel)) <|
  n_c (s_iret (pc := 16) rfl (by decide +kernel)) <|
  n_c (s_aload_n (pc := 17) (k := 0) (by decide +kernel)) <|
  n_c (s_callVc (s_callV (pc := 18) (csX12_thinks N hG) (by decide) okX12_thinks nok12 w_1977 w_109 w_1975 (by decide +kernel)) (gk107 hG)) <|
  n_c (s_aload_n (pc := 21) (k := 0) (by decide +kernel)) <|
  n_c (s_iload_n (pc := 22) (k := 1) (by decide +kernel)) <|
  n_c (s_iload_n (pc := 23) (k := 2) (by decide +kernel)) <|
  n_c (s_iload_n (pc := 24) (k := 3) (by decide +kernel)) <|
  n_c (s_callVc (s_callV (pc := 25) (csX12_isPut N hG) (by decide) okX12_isPut nok12 w_1863 w_90 w_1861 (by decide +kernel)) (gk107 hG)) <|
  n_c (s_pop (pc := 28) (by decide +kernel)) <|
  n_c (s_aload_n (pc := 29) (k := 0) (by decide +kernel)) <|
  n_c (s_gRc (s_getR (pc := 30) (ci := 12) (k := 1) (idx := 7) nok12 (by decide) rfl (by decide +kernel) w_1408) (gk107 hG) (gm107_1 hG)) <|
  n_c (s_bipush (pc := 33) (n := 28) (by decide +kernel) (by decide +kernel)) <|
  n_c (s_iload_n (pc := 35) (k := 2) (by decide +kernel)) <|
  n_c (s_iadd (pc := 36) (by decide +kernel)) <|
  n_c (s_aldc (s_iaload (pc := 37) (by decide +kernel)) (gk108 hG) (gl108 hG)) <|
  n_c (s_istore (pc := 38) (by decide +kernel)) <|
  n_c (s_aload_n (pc := 40) (k := 0) (by decide +kernel)) <|
  n_c (s_callVc (s_callV (pc := 41) (csX12_endsThought N hG) (by decide) okX12_endsThought nok12 w_1985 w_111 w_1983 (by decide +kernel)) (gk107 hG)) <|
  n_c (s_iload (pc := 44) (by decide +kernel)) <|
  n_c (s_iret (pc := 46) rfl (by decide +kernel)) <|
  n_e
def fX12_where (N : Nat) (x1 : Int32) (x2 : Int32) (x3 : Int32) (M : nM) : Option (Int32 × nM) :=
  let M1 : nM := n_up M 107 0 (0 : Int32)
  (fX12_canPut N x1 x2 x3 M1).bind fun p2 =>
  if ¬ p2.1 = 0 then
    (fX12_thinks N p2.2).bind fun p3 =>
    (fX12_isPut N x1 x2 x3 p3.2).bind fun p4 =>
    n_chk (n_ib 100 ((28 : Int32) + x2)) <|
    let v5 : Int32 := (p4.2 108 ((28 : Int32) + x2).toNatClampNeg)
    (fX12_endsThought N p4.2).bind fun p6 =>
    some (v5, p6.2)
  else
    some ((-1 : Int32), p2.2)
set_option maxRecDepth 200000 in
theorem bX12_where_0 {l : Launch} {w : nW} (N : Nat) {G : nG} (hG : n_GOK G) (x1 : Int32) (x2 : Int32) (x3 : Int32) (M : nM) (r : Int32 × nM) (h : fX12_where N x1 x2 x3 M = some r) : n_At l w 7 mX12_where 0 [(0, .ref 107), (1, .int x1), (2, .int x2), (3, .int x3)] [] (G, M) (dv_i r.1, (G, r.2)) :=
  n_seg (fin := n_fin dv_i G) (K := []) 33 (iX12_where N hG) n_ke (by rfl) h
theorem eX12_where {l : Launch} {w : nW} (N : Nat) {G : nG} (hG : n_GOK G) (z1 : Int32) (z2 : Int32) (z3 : Int32) (M : nM) (r : Int32 × nM) (h : fX12_where N z1 z2 z3 M = some r) : n_Met l w 7 mX12_where [.ref 107, .int z1, .int z2, .int z3] (G, M) (dv_i r.1, (G, r.2)) :=
  n_entry (by decide +kernel) rfl (Nat.le_of_ble_eq_true rfl) (n_sub (lv := [(0, .ref 107), (1, .int z1), (2, .int z2), (3, .int z3)]) (n_qc rfl (n_qc rfl (n_qc rfl (n_qc rfl n_qe)))) (bX12_where_0 N hG z1 z2 z3 M r h))
abbrev hX12_where (N : Nat) : nF := fun T as M k => n_pC 107 as (fun as => n_pI as (fun z1 as => n_pI as (fun z2 as => n_pI as (fun z3 as => n_pE as ((fX12_where N z1 z2 z3 M).bind fun p => k (dv_i p.1) p.2)))))
theorem csX12_where {l : Launch} {w : nW} (N : Nat) {G : nG} (hG : n_GOK G) : n_CS l w 7 mX12_where G (hX12_where N) := fun T as M k r h => by
  obtain ⟨t0, rfl, h1⟩ := n_pC_x h
  obtain ⟨z1, t1, rfl, h2⟩ := n_pI_x h1
  obtain ⟨z2, t2, rfl, h3⟩ := n_pI_x h2
  obtain ⟨z3, t3, rfl, h4⟩ := n_pI_x h3
  obtain ⟨rfl, hE⟩ := n_pE_x h4
  obtain ⟨p, hp, hk⟩ := Option.bind_eq_some_iff.mp hE
  exact ⟨_, _, eX12_where N hG z1 z2 z3 M p hp, hk⟩
/-! ===== SleightHouse.brings(II)I ===== -/
def mX11_brings : nY := (RX11, yX11_brings, cX11_brings, 3, some .int)
theorem okX11_brings : n_MOK mX11_brings 2 := ⟨w_1124, w_137, ⟨by decide +kernel, by decide +kernel, by decide +kernel⟩, by decide⟩
abbrev aX11_brings (N : Nat) (G : nG) : List (Nat × nO (Int32 × nM)) := [(0, o_aload 0 1), (1, o_gRc 1 45 4), (4, o_aload 0 5), (5, o_gRc 1 2 8), (8, o_gRc 2 9 11), (11, o_iload 1 12), (12, o_iload 2 13), (13, o_callVc 45 3 (hX0_canSearch G) 16), (16, oi_ne 21 19), (19, o_push (.int (-1 : Int32)) 20), (20, o_iret), (21, o_aload 0 22), (22, o_gRc 1 93 25), (25, o_aload 0 26), (26, o_gRc 1 2 29), (29, o_gRc 2 9 32), (32, o_callVc 93 1 (hX4_copyFrom G) 35), (35, o_aload 0 36), (36, o_gRc 1 45 39), (39, o_aload 0 40), (40, o_gRc 1 93 43), (43, o_iload 1 44), (44, o_iload 2 45), (45, o_callVc 45 3 (hX0_searchPlace N G) 48), (48, o_iret)]
set_option maxRecDepth 200000 in
theorem iX11_brings {l : Launch} {w : nW} (N : Nat) {G : nG} (hG : n_GOK G) : n_AllS l w 5 mX11_brings G (n_fin dv_i G) (aX11_brings N G) :=
  n_c (s_aload_n (pc := 0) (k := 0) (by decide +kernel)) <|
  n_c (s_gRc (s_getR (pc := 1) (ci := 11) (k := 1) (idx := 21) nok11 (by decide) rfl (by decide +kernel) w_573) (gk1 hG) (gm1_1 hG)) <|
  n_c (s_aload_n (pc := 4) (k := 0) (by decide +kernel)) <|
  n_c (s_gRc (s_getR (pc := 5) (ci := 11) (k := 0) (idx := 10) nok11 (by decide) rfl (by decide +kernel) w_572) (gk1 hG) (gm1_0 hG)) <|
  n_c (s_gRc (s_getR (pc := 8) (ci := 1) (k := 1) (idx := 77) nok1 (by decide) rfl (by decide +kernel) w_406) (gk2 hG) (gm2_1 hG)) <|
  n_c (s_iload_n (pc := 11) (k := 1) (by decide +kernel)) <|
  n_c (s_iload_n (pc := 12) (k := 2) (by decide +kernel)) <|
  n_c (s_callVc (s_callV (pc := 13) (csX0_canSearch hG) (by decide) okX0_canSearch nok0 w_765 w_766 w_764 (by decide +kernel)) (gk45 hG)) <|
  n_c (s_if_ne (pc := 16) (off := 5) (by decide +kernel) (by decide +kernel)) <|
  n_c (s_iconst (pc := 19) (n := -1) (by decide +kernel) (by decide +kernel)) <|
  n_c (s_iret (pc := 20) rfl (by decide +kernel)) <|
  n_c (s_aload_n (pc := 21) (k := 0) (by decide +kernel)) <|
  n_c (s_gRc (s_getR (pc := 22) (ci := 11) (k := 4) (idx := 50) nok11 (by decide) rfl (by decide +kernel) w_576) (gk1 hG) (gm1_4 hG)) <|
  n_c (s_aload_n (pc := 25) (k := 0) (by decide +kernel)) <|
  n_c (s_gRc (s_getR (pc := 26) (ci := 11) (k := 0) (idx := 10) nok11 (by decide) rfl (by decide +kernel) w_572) (gk1 hG) (gm1_0 hG)) <|
  n_c (s_gRc (s_getR (pc := 29) (ci := 1) (k := 1) (idx := 77) nok1 (by decide) rfl (by decide +kernel) w_406) (gk2 hG) (gm2_1 hG)) <|
  n_c (s_callVc (s_callV (pc := 32) (csX4_copyFrom) (by decide) okX4_copyFrom nok4 w_693 w_694 w_1107 (by decide +kernel)) (gk93 hG)) <|
  n_c (s_aload_n (pc := 35) (k := 0) (by decide +kernel)) <|
  n_c (s_gRc (s_getR (pc := 36) (ci := 11) (k := 1) (idx := 21) nok11 (by decide) rfl (by decide +kernel) w_573) (gk1 hG) (gm1_1 hG)) <|
  n_c (s_aload_n (pc := 39) (k := 0) (by decide +kernel)) <|
  n_c (s_gRc (s_getR (pc := 40) (ci := 11) (k := 4) (idx := 50) nok11 (by decide) rfl (by decide +kernel) w_576) (gk1 hG) (gm1_4 hG)) <|
  n_c (s_iload_n (pc := 43) (k := 1) (by decide +kernel)) <|
  n_c (s_iload_n (pc := 44) (k := 2) (by decide +kernel)) <|
  n_c (s_callVc (s_callV (pc := 45) (csX0_searchPlace N hG) (by decide) okX0_searchPlace nok0 w_769 w_770 w_768 (by decide +kernel)) (gk45 hG)) <|
  n_c (s_iret (pc := 48) rfl (by decide +kernel)) <|
  n_e
def fX11_brings (N : Nat) (G : nG) (x1 : Int32) (x2 : Int32) (M : nM) : Option (Int32 × nM) :=
  (fX0_canSearch G 9 x1 x2 M).bind fun p1 =>
  if ¬ p1.1 = 0 then
    (fX4_copyFrom G 93 9 p1.2).bind fun p2 =>
    (fX0_searchPlace N G 93 x1 x2 p2.2).bind fun p3 =>
    some (p3.1, p3.2)
  else
    some ((-1 : Int32), p1.2)
set_option maxRecDepth 200000 in
theorem bX11_brings_0 {l : Launch} {w : nW} (N : Nat) {G : nG} (hG : n_GOK G) (x1 : Int32) (x2 : Int32) (M : nM) (r : Int32 × nM) (h : fX11_brings N G x1 x2 M = some r) : n_At l w 5 mX11_brings 0 [(0, .ref 1), (1, .int x1), (2, .int x2)] [] (G, M) (dv_i r.1, (G, r.2)) :=
  n_seg (fin := n_fin dv_i G) (K := []) 28 (iX11_brings N hG) n_ke (by rfl) h
theorem eX11_brings {l : Launch} {w : nW} (N : Nat) {G : nG} (hG : n_GOK G) (z1 : Int32) (z2 : Int32) (M : nM) (r : Int32 × nM) (h : fX11_brings N G z1 z2 M = some r) : n_Met l w 5 mX11_brings [.ref 1, .int z1, .int z2] (G, M) (dv_i r.1, (G, r.2)) :=
  n_entry (by decide +kernel) rfl (Nat.le_of_ble_eq_true rfl) (n_sub (lv := [(0, .ref 1), (1, .int z1), (2, .int z2)]) (n_qc rfl (n_qc rfl (n_qc rfl n_qe))) (bX11_brings_0 N hG z1 z2 M r h))
abbrev hX11_brings (N : Nat) (G : nG) : nF := fun T as M k => n_pC 1 as (fun as => n_pI as (fun z1 as => n_pI as (fun z2 as => n_pE as ((fX11_brings N G z1 z2 M).bind fun p => k (dv_i p.1) p.2))))
theorem csX11_brings {l : Launch} {w : nW} (N : Nat) {G : nG} (hG : n_GOK G) : n_CS l w 5 mX11_brings G (hX11_brings N G) := fun T as M k r h => by
  obtain ⟨t0, rfl, h1⟩ := n_pC_x h
  obtain ⟨z1, t1, rfl, h2⟩ := n_pI_x h1
  obtain ⟨z2, t2, rfl, h3⟩ := n_pI_x h2
  obtain ⟨rfl, hE⟩ := n_pE_x h3
  obtain ⟨p, hp, hk⟩ := Option.bind_eq_some_iff.mp hE
  exact ⟨_, _, eX11_brings N hG z1 z2 M p hp, hk⟩
/-! ===== SleightHouseModel.brings(II)I ===== -/
def mX12_brings : nY := (RX12, yX12_brings, cX12_brings, 4, some .int)
theorem okX12_brings : n_MOK mX12_brings 2 := ⟨w_1994, w_151, ⟨by decide +kernel, by decide +kernel, by decide +kernel⟩, by decide⟩
abbrev aX12_brings (N : Nat) : List (Nat × nO (Int32 × nM)) := [(0, o_aload 0 1), (1, o_push (.int (0 : Int32)) 2), (2, o_pIc 107 0 5), (5, o_aload 0 6), (6, o_iload 1 7), (7, o_iload 2 8), (8, o_callVc 107 2 (hX12_canSearch) 11), (11, oi_ne 16 14), (14, o_push (.int (-1 : Int32)) 15), (15, o_iret), (16, o_aload 0 17), (17, o_callVc 107 0 (hX12_thinks N) 20), (20, o_aload 0 21), (21, o_iload 1 22), (22, o_iload 2 23), (23, o_callVc 107 2 (hX12_searches N) 26), (26, o_istore 4 3 27), (27, o_aload 0 28), (28, o_callVc 107 0 (hX12_endsThought N) 31), (31, o_iload 3 32), (32, o_iret)]
set_option maxRecDepth 200000 in
theorem iX12_brings {l : Launch} {w : nW} (N : Nat) {G : nG} (hG : n_GOK G) : n_AllS l w 6 mX12_brings G (n_fin dv_i G) (aX12_brings N) :=
  n_c (s_aload_n (pc := 0) (k := 0) (by decide +kernel)) <|
  n_c (s_iconst (pc := 1) (n := 0) (by decide +kernel) (by decide +kernel)) <|
  n_c (s_pIc (s_putI (pc := 2) (ci := 12) (k := 0) (idx := 146) nok12 (by decide) rfl rfl (by decide +kernel) w_1407) (gk107 hG)) <|
  n_c (s_aload_n (pc := 5) (k := 0) (by decide +kernel)) <|
  n_c (s_iload_n (pc := 6) (k := 1) (by decide +kernel)) <|
  n_c (s_iload_n (pc := 7) (k := 2) (by decide +kernel)) <|
  n_c (s_callVc (s_callV (pc := 8) (csX12_canSearch hG) (by decide) okX12_canSearch nok12 w_1917 w_102 w_1915 (by decide +kernel)) (gk107 hG)) <|
  n_c (s_if_ne (pc := 11) (off := 5) (by decide +kernel) (by decide +kernel)) <|
  n_c (s_iconst (pc := 14) (n := -1) (by decide +kernel) (by decide +kernel)) <|
  n_c (s_iret (pc := 15) rfl (by decide +kernel)) <|
  n_c (s_aload_n (pc := 16) (k := 0) (by decide +kernel)) <|
  n_c (s_callVc (s_callV (pc := 17) (csX12_thinks N hG) (by decide) okX12_thinks nok12 w_1977 w_109 w_1975 (by decide +kernel)) (gk107 hG)) <|
  n_c (s_aload_n (pc := 20) (k := 0) (by decide +kernel)) <|
  n_c (s_iload_n (pc := 21) (k := 1) (by decide +kernel)) <|
  n_c (s_iload_n (pc := 22) (k := 2) (by decide +kernel)) <|
  n_c (s_callVc (s_callV (pc := 23) (csX12_searches N hG) (by decide) okX12_searches nok12 w_1921 w_103 w_1919 (by decide +kernel)) (gk107 hG)) <|
  n_c (s_istore_n (pc := 26) (k := 3) (by decide +kernel)) <|
  n_c (s_aload_n (pc := 27) (k := 0) (by decide +kernel)) <|
  n_c (s_callVc (s_callV (pc := 28) (csX12_endsThought N hG) (by decide) okX12_endsThought nok12 w_1985 w_111 w_1983 (by decide +kernel)) (gk107 hG)) <|
  n_c (s_iload_n (pc := 31) (k := 3) (by decide +kernel)) <|
  n_c (s_iret (pc := 32) rfl (by decide +kernel)) <|
  n_e
def fX12_brings (N : Nat) (x1 : Int32) (x2 : Int32) (M : nM) : Option (Int32 × nM) :=
  let M1 : nM := n_up M 107 0 (0 : Int32)
  (fX12_canSearch x1 x2 M1).bind fun p2 =>
  if ¬ p2.1 = 0 then
    (fX12_thinks N p2.2).bind fun p3 =>
    (fX12_searches N x1 x2 p3.2).bind fun p4 =>
    (fX12_endsThought N p4.2).bind fun p5 =>
    some (p4.1, p5.2)
  else
    some ((-1 : Int32), p2.2)
set_option maxRecDepth 200000 in
theorem bX12_brings_0 {l : Launch} {w : nW} (N : Nat) {G : nG} (hG : n_GOK G) (x1 : Int32) (x2 : Int32) (M : nM) (r : Int32 × nM) (h : fX12_brings N x1 x2 M = some r) : n_At l w 6 mX12_brings 0 [(0, .ref 107), (1, .int x1), (2, .int x2)] [] (G, M) (dv_i r.1, (G, r.2)) :=
  n_seg (fin := n_fin dv_i G) (K := []) 24 (iX12_brings N hG) n_ke (by rfl) h
theorem eX12_brings {l : Launch} {w : nW} (N : Nat) {G : nG} (hG : n_GOK G) (z1 : Int32) (z2 : Int32) (M : nM) (r : Int32 × nM) (h : fX12_brings N z1 z2 M = some r) : n_Met l w 6 mX12_brings [.ref 107, .int z1, .int z2] (G, M) (dv_i r.1, (G, r.2)) :=
  n_entry (by decide +kernel) rfl (Nat.le_of_ble_eq_true rfl) (n_sub (lv := [(0, .ref 107), (1, .int z1), (2, .int z2)]) (n_qc rfl (n_qc rfl (n_qc rfl n_qe))) (bX12_brings_0 N hG z1 z2 M r h))
abbrev hX12_brings (N : Nat) : nF := fun T as M k => n_pC 107 as (fun as => n_pI as (fun z1 as => n_pI as (fun z2 as => n_pE as ((fX12_brings N z1 z2 M).bind fun p => k (dv_i p.1) p.2))))
theorem csX12_brings {l : Launch} {w : nW} (N : Nat) {G : nG} (hG : n_GOK G) : n_CS l w 6 mX12_brings G (hX12_brings N) := fun T as M k r h => by
  obtain ⟨t0, rfl, h1⟩ := n_pC_x h
  obtain ⟨z1, t1, rfl, h2⟩ := n_pI_x h1
  obtain ⟨z2, t2, rfl, h3⟩ := n_pI_x h2
  obtain ⟨rfl, hE⟩ := n_pE_x h3
  obtain ⟨p, hp, hk⟩ := Option.bind_eq_some_iff.mp hE
  exact ⟨_, _, eX12_brings N hG z1 z2 M p hp, hk⟩
