/-! ===== SleightHouse$Stock.copyFrom(LSleightHouse$Stock;)V ===== -/
def mX8_copyFrom : nY := (RX8, yX8_copyFrom, cX8_copyFrom, 2, none)
theorem okX8_copyFrom : n_MOK mX8_copyFrom 1 := ⟨w_1386, w_139, ⟨by decide +kernel, by decide +kernel, by decide +kernel⟩, by decide⟩
abbrev aX8_copyFrom (G : nG) : List (Nat × nO (Unit × nM)) := [(0, o_aload 1 1), (1, o_getR G 8 0 4), (4, o_push (.int (0 : Int32)) 5), (5, o_aload 0 6), (6, o_getR G 8 0 9), (9, o_push (.int (0 : Int32)) 10), (10, o_push (.int (12 : Int32)) 12), (12, o_copy G 15), (15, o_aload 1 16), (16, o_getR G 8 1 19), (19, o_push (.int (0 : Int32)) 20), (20, o_aload 0 21), (21, o_getR G 8 1 24), (24, o_push (.int (0 : Int32)) 25), (25, o_push (.int (16 : Int32)) 27), (27, o_copy G 30), (30, o_aload 1 31), (31, o_getR G 8 2 34), (34, o_push (.int (0 : Int32)) 35), (35, o_aload 0 36), (36, o_getR G 8 2 39), (39, o_push (.int (0 : Int32)) 40), (40, o_push (.int (16 : Int32)) 42), (42, o_copy G 45), (45, o_aload 1 46), (46, o_getR G 8 3 49), (49, o_push (.int (0 : Int32)) 50), (50, o_aload 0 51), (51, o_getR G 8 3 54), (54, o_push (.int (0 : Int32)) 55), (55, o_push (.int (12 : Int32)) 57), (57, o_copy G 60), (60, o_aload 1 61), (61, o_getR G 8 4 64), (64, o_push (.int (0 : Int32)) 65), (65, o_aload 0 66), (66, o_getR G 8 4 69), (69, o_push (.int (0 : Int32)) 70), (70, o_push (.int (12 : Int32)) 72), (72, o_copy G 75), (75, o_aload 0 76), (76, o_aload 1 77), (77, o_getI G 8 5 80), (80, o_putI G 8 5 83), (83, o_aload 0 84), (84, o_aload 1 85), (85, o_getI G 8 6 88), (88, o_putI G 8 6 91), (91, o_vret)]
set_option maxRecDepth 200000 in
theorem iX8_copyFrom {l : Launch} {w : nW} {G : nG} : n_AllS l w 0 mX8_copyFrom G (n_fin dv_v G) (aX8_copyFrom G) :=
  n_c (s_aload_n (pc := 0) (k := 1) (by decide +kernel)) <|
  n_c (s_getR (pc := 1) (ci := 8) (k := 0) (idx := 9) nok8 (by decide) rfl (by decide +kernel) w_182) <|
  n_c (s_iconst (pc := 4) (n := 0) (by decide +kernel) (by decide +kernel)) <|
  n_c (s_aload_n (pc := 5) (k := 0) (by decide +kernel)) <|
  n_c (s_getR (pc := 6) (ci := 8) (k := 0) (idx := 9) nok8 (by decide) rfl (by decide +kernel) w_182) <|
  n_c (s_iconst (pc := 9) (n := 0) (by decide +kernel) (by decide +kernel)) <|
  n_c (s_bipush (pc := 10) (n := 12) (by decide +kernel) (by decide +kernel)) <|
  n_c (s_copy (pc := 12) w_1387 w_698 w_697 w_152 (by decide +kernel)) <|
  n_c (s_aload_n (pc := 15) (k := 1) (by decide +kernel)) <|
  n_c (s_getR (pc := 16) (ci := 8) (k := 1) (idx := 15) nok8 (by decide) rfl (by decide +kernel) w_185) <|
  n_c (s_iconst (pc := 19) (n := 0) (by decide +kernel) (by decide +kernel)) <|
  n_c (s_aload_n (pc := 20) (k := 0) (by decide +kernel)) <|
  n_c (s_getR (pc := 21) (ci := 8) (k := 1) (idx := 15) nok8 (by decide) rfl (by decide +kernel) w_185) <|
  n_c (s_iconst (pc := 24) (n := 0) (by decide +kernel) (by decide +kernel)) <|
  n_c (s_bipush (pc := 25) (n := 16) (by decide +kernel) (by decide +kernel)) <|
  n_c (s_copy (pc := 27) w_1387 w_698 w_697 w_152 (by decide +kernel)) <|
  n_c (s_aload_n (pc := 30) (k := 1) (by decide +kernel)) <|
  n_c (s_getR (pc := 31) (ci := 8) (k := 2) (idx := 18) nok8 (by decide) rfl (by decide +kernel) w_188) <|
  n_c (s_iconst (pc := 34) (n := 0) (by decide +kernel) (by decide +kernel)) <|
  n_c (s_aload_n (pc := 35) (k := 0) (by decide +kernel)) <|
  n_c (s_getR (pc := 36) (ci := 8) (k := 2) (idx := 18) nok8 (by decide) rfl (by decide +kernel) w_188) <|
  n_c (s_iconst (pc := 39) (n := 0) (by decide +kernel) (by decide +kernel)) <|
  n_c (s_bipush (pc := 40) (n := 16) (by decide +kernel) (by decide +kernel)) <|
  n_c (s_copy (pc := 42) w_1387 w_698 w_697 w_152 (by decide +kernel)) <|
  n_c (s_aload_n (pc := 45) (k := 1) (by decide +kernel)) <|
  n_c (s_getR (pc := 46) (ci := 8) (k := 3) (idx := 21) nok8 (by decide) rfl (by decide +kernel) w_191) <|
  n_c (s_iconst (pc := 49) (n := 0) (by decide +kernel) (by decide +kernel)) <|
  n_c (s_aload_n (pc := 50) (k := 0) (by decide +kernel)) <|
  n_c (s_getR (pc := 51) (ci := 8) (k := 3) (idx := 21) nok8 (by decide) rfl (by decide +kernel) w_191) <|
  n_c (s_iconst (pc := 54) (n := 0) (by decide +kernel) (by decide +kernel)) <|
  n_c (s_bipush (pc := 55) (n := 12) (by decide +kernel) (by decide +kernel)) <|
  n_c (s_copy (pc := 57) w_1387 w_698 w_697 w_152 (by decide +kernel)) <|
  n_c (s_aload_n (pc := 60) (k := 1) (by decide +kernel)) <|
  n_c (s_getR (pc := 61) (ci := 8) (k := 4) (idx := 24) nok8 (by decide) rfl (by decide +kernel) w_194) <|
  n_c (s_iconst (pc := 64) (n := 0) (by decide +kernel) (by decide +kernel)) <|
  n_c (s_aload_n (pc := 65) (k := 0) (by decide +kernel)) <|
  n_c (s_getR (pc := 66) (ci := 8) (k := 4) (idx := 24) nok8 (by decide) rfl (by decide +kernel) w_194) <|
  n_c (s_iconst (pc := 69) (n := 0) (by decide +kernel) (by decide +kernel)) <|
  n_c (s_bipush (pc := 70) (n := 12) (by decide +kernel) (by decide +kernel)) <|
  n_c (s_copy (pc := 72) w_1387 w_698 w_697 w_152 (by decide +kernel)) <|
  n_c (s_aload_n (pc := 75) (k := 0) (by decide +kernel)) <|
  n_c (s_aload_n (pc := 76) (k := 1) (by decide +kernel)) <|
  n_c (s_getI (pc := 77) (ci := 8) (k := 5) (idx := 27) nok8 (by decide) rfl (by decide +kernel) w_197) <|
  n_c (s_putI (pc := 80) (ci := 8) (k := 5) (idx := 27) nok8 (by decide) rfl rfl (by decide +kernel) w_197) <|
  n_c (s_aload_n (pc := 83) (k := 0) (by decide +kernel)) <|
  n_c (s_aload_n (pc := 84) (k := 1) (by decide +kernel)) <|
  n_c (s_getI (pc := 85) (ci := 8) (k := 6) (idx := 31) nok8 (by decide) rfl (by decide +kernel) w_202) <|
  n_c (s_putI (pc := 88) (ci := 8) (k := 6) (idx := 31) nok8 (by decide) rfl rfl (by decide +kernel) w_202) <|
  n_c (s_vret (pc := 91) rfl (by decide +kernel)) <|
  n_e
def fX8_copyFrom (G : nG) (x0 : Nat) (x1 : Nat) (M : nM) : Option (Unit × nM) :=
  n_chk (Nat.beq (n_kd G x1) 8) <|
  n_chk (Nat.beq (n_kd G x0) 8) <|
  n_chk (n_cpok G (n_mr G x1 0) (n_mr G x0 0) (0 : Int32) (0 : Int32) (12 : Int32) && true) <|
  let M1 : nM := n_cpy M (n_mr G x1 0) (n_mr G x0 0) (0 : Int32).toNatClampNeg (0 : Int32).toNatClampNeg (12 : Int32).toNatClampNeg
  n_chk (Nat.beq (n_kd G x1) 8) <|
  n_chk (Nat.beq (n_kd G x0) 8) <|
  n_chk (n_cpok G (n_mr G x1 1) (n_mr G x0 1) (0 : Int32) (0 : Int32) (16 : Int32) && true) <|
  let M2 : nM := n_cpy M1 (n_mr G x1 1) (n_mr G x0 1) (0 : Int32).toNatClampNeg (0 : Int32).toNatClampNeg (16 : Int32).toNatClampNeg
  n_chk (Nat.beq (n_kd G x1) 8) <|
  n_chk (Nat.beq (n_kd G x0) 8) <|
  n_chk (n_cpok G (n_mr G x1 2) (n_mr G x0 2) (0 : Int32) (0 : Int32) (16 : Int32) && true) <|
  let M3 : nM := n_cpy M2 (n_mr G x1 2) (n_mr G x0 2) (0 : Int32).toNatClampNeg (0 : Int32).toNatClampNeg (16 : Int32).toNatClampNeg
  n_chk (Nat.beq (n_kd G x1) 8) <|
  n_chk (Nat.beq (n_kd G x0) 8) <|
  n_chk (n_cpok G (n_mr G x1 3) (n_mr G x0 3) (0 : Int32) (0 : Int32) (12 : Int32) && true) <|
  let M4 : nM := n_cpy M3 (n_mr G x1 3) (n_mr G x0 3) (0 : Int32).toNatClampNeg (0 : Int32).toNatClampNeg (12 : Int32).toNatClampNeg
  n_chk (Nat.beq (n_kd G x1) 8) <|
  n_chk (Nat.beq (n_kd G x0) 8) <|
  n_chk (n_cpok G (n_mr G x1 4) (n_mr G x0 4) (0 : Int32) (0 : Int32) (12 : Int32) && true) <|
  let M5 : nM := n_cpy M4 (n_mr G x1 4) (n_mr G x0 4) (0 : Int32).toNatClampNeg (0 : Int32).toNatClampNeg (12 : Int32).toNatClampNeg
  n_chk (Nat.beq (n_kd G x1) 8) <|
  n_chk (Nat.beq (n_kd G x0) 8) <|
  let M6 : nM := n_up M5 x0 5 (M5 x1 5)
  n_chk (Nat.beq (n_kd G x1) 8) <|
  n_chk (Nat.beq (n_kd G x0) 8) <|
  let M7 : nM := n_up M6 x0 6 (M6 x1 6)
  some ((), M7)
set_option maxRecDepth 200000 in
theorem bX8_copyFrom_0 {l : Launch} {w : nW} {G : nG} (x0 : Nat) (x1 : Nat) (M : nM) (r : Unit × nM) (h : fX8_copyFrom G x0 x1 M = some r) : n_At l w 0 mX8_copyFrom 0 [(0, .ref x0), (1, .ref x1)] [] (G, M) (dv_v r.1, (G, r.2)) :=
  n_seg (fin := n_fin dv_v G) (K := []) 52 (iX8_copyFrom) n_ke (by rfl) h
theorem eX8_copyFrom {l : Launch} {w : nW} {G : nG} (z0 : Nat) (z1 : Nat) (M : nM) (r : Unit × nM) (h : fX8_copyFrom G z0 z1 M = some r) : n_Met l w 0 mX8_copyFrom [.ref z0, .ref z1] (G, M) (dv_v r.1, (G, r.2)) :=
  n_entry (by decide +kernel) rfl (Nat.le_of_ble_eq_true rfl) (n_sub (lv := [(0, .ref z0), (1, .ref z1)]) (n_qc rfl (n_qc rfl n_qe)) (bX8_copyFrom_0 z0 z1 M r h))
abbrev hX8_copyFrom (G : nG) : nF := fun T as M k => n_pR as (fun z0 as => n_pR as (fun z1 as => n_pE as ((fX8_copyFrom G z0 z1 M).bind fun p => k (dv_v p.1) p.2)))
theorem csX8_copyFrom {l : Launch} {w : nW} {G : nG} : n_CS l w 0 mX8_copyFrom G (hX8_copyFrom G) := fun T as M k r h => by
  obtain ⟨z0, t0, rfl, h1⟩ := n_pR_x h
  obtain ⟨z1, t1, rfl, h2⟩ := n_pR_x h1
  obtain ⟨rfl, hE⟩ := n_pE_x h2
  obtain ⟨p, hp, hk⟩ := Option.bind_eq_some_iff.mp hE
  exact ⟨_, _, eX8_copyFrom z0 z1 M p hp, hk⟩
/-! ===== SleightHouse$Told.copyFrom(LSleightHouse$Told;)V ===== -/
def mX10_copyFrom : nY := (RX10, yX10_copyFrom, cX10_copyFrom, 2, none)
theorem okX10_copyFrom : n_MOK mX10_copyFrom 1 := ⟨w_1394, w_145, ⟨by decide +kernel, by decide +kernel, by decide +kernel⟩, by decide⟩
abbrev aX10_copyFrom (G : nG) : List (Nat × nO (Unit × nM)) := [(0, o_aload 0 1), (1, o_getR G 10 0 4), (4, o_aload 1 5), (5, o_getR G 10 0 8), (8, o_callV G 7 1 (hX7_copyFrom G) 11), (11, o_aload 0 12), (12, o_getR G 10 1 15), (15, o_aload 1 16), (16, o_getR G 10 1 19), (19, o_callV G 7 1 (hX7_copyFrom G) 22), (22, o_aload 0 23), (23, o_getR G 10 2 26), (26, o_aload 1 27), (27, o_getR G 10 2 30), (30, o_callV G 7 1 (hX7_copyFrom G) 33), (33, o_aload 0 34), (34, o_getR G 10 3 37), (37, o_aload 1 38), (38, o_getR G 10 3 41), (41, o_callV G 7 1 (hX7_copyFrom G) 44), (44, o_aload 0 45), (45, o_getR G 10 4 48), (48, o_aload 1 49), (49, o_getR G 10 4 52), (52, o_callV G 7 1 (hX7_copyFrom G) 55), (55, o_aload 0 56), (56, o_getR G 10 5 59), (59, o_aload 1 60), (60, o_getR G 10 5 63), (63, o_callV G 7 1 (hX7_copyFrom G) 66), (66, o_aload 0 67), (67, o_getR G 10 6 70), (70, o_aload 1 71), (71, o_getR G 10 6 74), (74, o_callV G 7 1 (hX7_copyFrom G) 77), (77, o_aload 1 78), (78, o_getR G 10 7 81), (81, o_push (.int (0 : Int32)) 82), (82, o_aload 0 83), (83, o_getR G 10 7 86), (86, o_push (.int (0 : Int32)) 87), (87, o_push (.int (12 : Int32)) 89), (89, o_copy G 92), (92, o_aload 1 93), (93, o_getR G 10 8 96), (96, o_push (.int (0 : Int32)) 97), (97, o_aload 0 98), (98, o_getR G 10 8 101), (101, o_push (.int (0 : Int32)) 102), (102, o_push (.int (36 : Int32)) 104), (104, o_copy G 107), (107, o_vret)]
set_option maxRecDepth 200000 in
theorem iX10_copyFrom {l : Launch} {w : nW} {G : nG} : n_AllS l w 1 mX10_copyFrom G (n_fin dv_v G) (aX10_copyFrom G) :=
  n_c (s_aload_n (pc := 0) (k := 0) (by decide +kernel)) <|
  n_c (s_getR (pc := 1) (ci := 10) (k := 0) (idx := 14) nok10 (by decide) rfl (by decide +kernel) w_357) <|
  n_c (s_aload_n (pc := 4) (k := 1) (by decide +kernel)) <|
  n_c (s_getR (pc := 5) (ci := 10) (k := 0) (idx := 14) nok10 (by decide) rfl (by decide +kernel) w_357) <|
  n_c (s_callV (pc := 8) (csX7_copyFrom) (by decide) okX7_copyFrom nok7 w_1061 w_1062 w_1395 (by decide +kernel)) <|
  n_c (s_aload_n (pc := 11) (k := 0) (by decide +kernel)) <|
  n_c (s_getR (pc := 12) (ci := 10) (k := 1) (idx := 20) nok10 (by decide) rfl (by decide +kernel) w_360) <|
  n_c (s_aload_n (pc := 15) (k := 1) (by decide +kernel)) <|
  n_c (s_getR (pc := 16) (ci := 10) (k := 1) (idx := 20) nok10 (by decide) rfl (by decide +kernel) w_360) <|
  n_c (s_callV (pc := 19) (csX7_copyFrom) (by decide) okX7_copyFrom nok7 w_1061 w_1062 w_1395 (by decide +kernel)) <|
  n_c (s_aload_n (pc := 22) (k := 0) (by decide +kernel)) <|
  n_c (s_getR (pc := 23) (ci := 10) (k := 2) (idx := 23) nok10 (by decide) rfl (by decide +kernel) w_363) <|
  n_c (s_aload_n (pc := 26) (k := 1) (by decide +kernel)) <|
  n_c (s_getR (pc := 27) (ci := 10) (k := 2) (idx := 23) nok10 (by decide) rfl (by decide +kernel) w_363) <|
  n_c (s_callV (pc := 30) (csX7_copyFrom) (by decide) okX7_copyFrom nok7 w_1061 w_1062 w_1395 (by decide +kernel)) <|
  n_c (s_aload_n (pc := 33) (k := 0) (by decide +kernel)) <|
  n_c (s_getR (pc := 34) (ci := 10) (k := 3) (idx := 26) nok10 (by decide) rfl (by decide +kernel) w_366) <|
  n_c (s_aload_n (pc := 37) (k := 1) (by decide +kernel)) <|
  n_c (s_getR (pc := 38) (ci := 10) (k := 3) (idx := 26) nok10 (by decide) rfl (by decide +kernel) w_366) <|
  n_c (s_callV (pc := 41) (csX7_copyFrom) (by decide) okX7_copyFrom nok7 w_1061 w_1062 w_1395 (by decide +kernel)) <|
  n_c (s_aload_n (pc := 44) (k := 0) (by decide +kernel)) <|
  n_c (s_getR (pc := 45) (ci := 10) (k := 4) (idx := 29) nok10 (by decide) rfl (by decide +kernel) w_369) <|
  n_c (s_aload_n (pc := 48) (k := 1) (by decide +kernel)) <|
  n_c (s_getR (pc := 49) (ci := 10) (k := 4) (idx := 29) nok10 (by decide) rfl (by decide +kernel) w_369) <|
  n_c (s_callV (pc := 52) (csX7_copyFrom) (by decide) okX7_copyFrom nok7 w_1061 w_1062 w_1395 (by decide +kernel)) <|
  n_c (s_aload_n (pc := 55) (k := 0) (by decide +kernel)) <|
  n_c (s_getR (pc := 56) (ci := 10) (k := 5) (idx := 32) nok10 (by decide) rfl (by decide +kernel) w_372) <|
  n_c (s_aload_n (pc := 59) (k := 1) (by decide +kernel)) <|
  n_c (s_getR (pc := 60) (ci := 10) (k := 5) (idx := 32) nok10 (by decide) rfl (by decide +kernel) w_372) <|
  n_c (s_callV (pc := 63) (csX7_copyFrom) (by decide) okX7_copyFrom nok7 w_1061 w_1062 w_1395 (by decide +kernel)) <|
  n_c (s_aload_n (pc := 66) (k := 0) (by decide +kernel)) <|
  n_c (s_getR (pc := 67) (ci := 10) (k := 6) (idx := 35) nok10 (by decide) rfl (by decide +kernel) w_375) <|
  n_c (s_aload_n (pc := 70) (k := 1) (by decide +kernel)) <|
  n_c (s_getR (pc := 71) (ci := 10) (k := 6) (idx := 35) nok10 (by decide) rfl (by decide +kernel) w_375) <|
  n_c (s_callV (pc := 74) (csX7_copyFrom) (by decide) okX7_copyFrom nok7 w_1061 w_1062 w_1395 (by decide +kernel)) <|
  n_c (s_aload_n (pc := 77) (k := 1) (by decide +kernel)) <|
  n_c (s_getR (pc := 78) (ci := 10) (k := 7) (idx := 38) nok10 (by decide) rfl (by decide +kernel) w_378) <|
  n_c (s_iconst (pc := 81) (n := 0) (by decide +kernel) (by decide +kernel)) <|
  n_c (s_aload_n (pc := 82) (k := 0) (by decide +kernel)) <|
  n_c (s_getR (pc := 83) (ci := 10) (k := 7) (idx := 38) nok10 (by decide) rfl (by decide +kernel) w_378) <|
  n_c (s_iconst (pc := 86) (n := 0) (by decide +kernel) (by decide +kernel)) <|
  n_c (s_bipush (pc := 87) (n := 12) (by decide +kernel) (by decide +kernel)) <|
  n_c (s_copy (pc := 89) w_1396 w_698 w_697 w_152 (by decide +kernel)) <|
  n_c (s_aload_n (pc := 92) (k := 1) (by decide +kernel)) <|
  n_c (s_getR (pc := 93) (ci := 10) (k := 8) (idx := 42) nok10 (by decide) rfl (by decide +kernel) w_380) <|
  n_c (s_iconst (pc := 96) (n := 0) (by decide +kernel) (by decide +kernel)) <|
  n_c (s_aload_n (pc := 97) (k := 0) (by decide +kernel)) <|
  n_c (s_getR (pc := 98) (ci := 10) (k := 8) (idx := 42) nok10 (by decide) rfl (by decide +kernel) w_380) <|
  n_c (s_iconst (pc := 101) (n := 0) (by decide +kernel) (by decide +kernel)) <|
  n_c (s_bipush (pc := 102) (n := 36) (by decide +kernel) (by decide +kernel)) <|
  n_c (s_copy (pc := 104) w_1396 w_698 w_697 w_152 (by decide +kernel)) <|
  n_c (s_vret (pc := 107) rfl (by decide +kernel)) <|
  n_e
def fX10_copyFrom (G : nG) (x0 : Nat) (x1 : Nat) (M : nM) : Option (Unit × nM) :=
  n_chk (Nat.beq (n_kd G x0) 10) <|
  n_chk (Nat.beq (n_kd G x1) 10) <|
  n_chk (Nat.beq (n_kd G (n_mr G x0 0)) 7 && true) <|
  (fX7_copyFrom G (n_mr G x0 0) (n_mr G x1 0) M).bind fun p1 =>
  n_chk (Nat.beq (n_kd G x0) 10) <|
  n_chk (Nat.beq (n_kd G x1) 10) <|
  n_chk (Nat.beq (n_kd G (n_mr G x0 1)) 7 && true) <|
  (fX7_copyFrom G (n_mr G x0 1) (n_mr G x1 1) p1.2).bind fun p2 =>
  n_chk (Nat.beq (n_kd G x0) 10) <|
  n_chk (Nat.beq (n_kd G x1) 10) <|
  n_chk (Nat.beq (n_kd G (n_mr G x0 2)) 7 && true) <|
  (fX7_copyFrom G (n_mr G x0 2) (n_mr G x1 2) p2.2).bind fun p3 =>
  n_chk (Nat.beq (n_kd G x0) 10) <|
  n_chk (Nat.beq (n_kd G x1) 10) <|
  n_chk (Nat.beq (n_kd G (n_mr G x0 3)) 7 && true) <|
  (fX7_copyFrom G (n_mr G x0 3) (n_mr G x1 3) p3.2).bind fun p4 =>
  n_chk (Nat.beq (n_kd G x0) 10) <|
  n_chk (Nat.beq (n_kd G x1) 10) <|
  n_chk (Nat.beq (n_kd G (n_mr G x0 4)) 7 && true) <|
  (fX7_copyFrom G (n_mr G x0 4) (n_mr G x1 4) p4.2).bind fun p5 =>
  n_chk (Nat.beq (n_kd G x0) 10) <|
  n_chk (Nat.beq (n_kd G x1) 10) <|
  n_chk (Nat.beq (n_kd G (n_mr G x0 5)) 7 && true) <|
  (fX7_copyFrom G (n_mr G x0 5) (n_mr G x1 5) p5.2).bind fun p6 =>
  n_chk (Nat.beq (n_kd G x0) 10) <|
  n_chk (Nat.beq (n_kd G x1) 10) <|
  n_chk (Nat.beq (n_kd G (n_mr G x0 6)) 7 && true) <|
  (fX7_copyFrom G (n_mr G x0 6) (n_mr G x1 6) p6.2).bind fun p7 =>
  n_chk (Nat.beq (n_kd G x1) 10) <|
  n_chk (Nat.beq (n_kd G x0) 10) <|
  n_chk (n_cpok G (n_mr G x1 7) (n_mr G x0 7) (0 : Int32) (0 : Int32) (12 : Int32) && true) <|
  let M8 : nM := n_cpy p7.2 (n_mr G x1 7) (n_mr G x0 7) (0 : Int32).toNatClampNeg (0 : Int32).toNatClampNeg (12 : Int32).toNatClampNeg
  n_chk (Nat.beq (n_kd G x1) 10) <|
  n_chk (Nat.beq (n_kd G x0) 10) <|
  n_chk (n_cpok G (n_mr G x1 8) (n_mr G x0 8) (0 : Int32) (0 : Int32) (36 : Int32) && true) <|
  let M9 : nM := n_cpy M8 (n_mr G x1 8) (n_mr G x0 8) (0 : Int32).toNatClampNeg (0 : Int32).toNatClampNeg (36 : Int32).toNatClampNeg
  some ((), M9)
set_option maxRecDepth 200000 in
theorem bX10_copyFrom_0 {l : Launch} {w : nW} {G : nG} (x0 : Nat) (x1 : Nat) (M : nM) (r : Unit × nM) (h : fX10_copyFrom G x0 x1 M = some r) : n_At l w 1 mX10_copyFrom 0 [(0, .ref x0), (1, .ref x1)] [] (G, M) (dv_v r.1, (G, r.2)) :=
  n_seg (fin := n_fin dv_v G) (K := []) 55 (iX10_copyFrom) n_ke (by rfl) h
theorem eX10_copyFrom {l : Launch} {w : nW} {G : nG} (z0 : Nat) (z1 : Nat) (M : nM) (r : Unit × nM) (h : fX10_copyFrom G z0 z1 M = some r) : n_Met l w 1 mX10_copyFrom [.ref z0, .ref z1] (G, M) (dv_v r.1, (G, r.2)) :=
  n_entry (by decide +kernel) rfl (Nat.le_of_ble_eq_true rfl) (n_sub (lv := [(0, .ref z0), (1, .ref z1)]) (n_qc rfl (n_qc rfl n_qe)) (bX10_copyFrom_0 z0 z1 M r h))
abbrev hX10_copyFrom (G : nG) : nF := fun T as M k => n_pR as (fun z0 as => n_pR as (fun z1 as => n_pE as ((fX10_copyFrom G z0 z1 M).bind fun p => k (dv_v p.1) p.2)))
theorem csX10_copyFrom {l : Launch} {w : nW} {G : nG} : n_CS l w 1 mX10_copyFrom G (hX10_copyFrom G) := fun T as M k r h => by
  obtain ⟨z0, t0, rfl, h1⟩ := n_pR_x h
  obtain ⟨z1, t1, rfl, h2⟩ := n_pR_x h1
  obtain ⟨rfl, hE⟩ := n_pE_x h2
  obtain ⟨p, hp, hk⟩ := Option.bind_eq_some_iff.mp hE
  exact ⟨_, _, eX10_copyFrom z0 z1 M p hp, hk⟩
/-! ===== SleightHouse$House.copyFrom(LSleightHouse$House;)V ===== -/
def mX1_copyFrom : nY := (RX1, yX1_copyFrom, cX1_copyFrom, 2, none)
theorem okX1_copyFrom : n_MOK mX1_copyFrom 1 := ⟨w_1382, w_138, ⟨by decide +kernel, by decide +kernel, by decide +kernel⟩, by decide⟩
abbrev aX1_copyFrom (G : nG) : List (Nat × nO (Unit × nM)) := [(0, o_aload 0 1), (1, o_getR G 1 0 4), (4, o_aload 1 5), (5, o_getR G 1 0 8), (8, o_callV G 8 1 (hX8_copyFrom G) 11), (11, o_aload 0 12), (12, o_getR G 1 1 15), (15, o_aload 1 16), (16, o_getR G 1 1 19), (19, o_callV G 4 1 (hX4_copyFrom G) 22), (22, o_aload 0 23), (23, o_getR G 1 2 26), (26, o_aload 1 27), (27, o_getR G 1 2 30), (30, o_callV G 7 1 (hX7_copyFrom G) 33), (33, o_aload 0 34), (34, o_getR G 1 3 37), (37, o_aload 1 38), (38, o_getR G 1 3 41), (41, o_callV G 3 1 (hX3_copyFrom G) 44), (44, o_aload 0 45), (45, o_getR G 1 4 48), (48, o_aload 1 49), (49, o_getR G 1 4 52), (52, o_callV G 7 1 (hX7_copyFrom G) 55), (55, o_aload 0 56), (56, o_getR G 1 5 59), (59, o_aload 1 60), (60, o_getR G 1 5 63), (63, o_callV G 7 1 (hX7_copyFrom G) 66), (66, o_aload 0 67), (67, o_getR G 1 6 70), (70, o_aload 1 71), (71, o_getR G 1 6 74), (74, o_callV G 7 1 (hX7_copyFrom G) 77), (77, o_aload 0 78), (78, o_getR G 1 7 81), (81, o_aload 1 82), (82, o_getR G 1 7 85), (85, o_callV G 10 1 (hX10_copyFrom G) 88), (88, o_vret)]
set_option maxRecDepth 200000 in
theorem iX1_copyFrom {l : Launch} {w : nW} {G : nG} : n_AllS l w 2 mX1_copyFrom G (n_fin dv_v G) (aX1_copyFrom G) :=
  n_c (s_aload_n (pc := 0) (k := 0) (by decide +kernel)) <|
  n_c (s_getR (pc := 1) (ci := 1) (k := 0) (idx := 12) nok1 (by decide) rfl (by decide +kernel) w_402) <|
  n_c (s_aload_n (pc := 4) (k := 1) (by decide +kernel)) <|
  n_c (s_getR (pc := 5) (ci := 1) (k := 0) (idx := 12) nok1 (by decide) rfl (by decide +kernel) w_402) <|
  n_c (s_callV (pc := 8) (csX8_copyFrom) (by decide) okX8_copyFrom nok8 w_1384 w_1385 w_1383 (by decide +kernel)) <|
  n_c (s_aload_n (pc := 11) (k := 0) (by decide +kernel)) <|
  n_c (s_getR (pc := 12) (ci := 1) (k := 1) (idx := 23) nok1 (by decide) rfl (by decide +kernel) w_405) <|
  n_c (s_aload_n (pc := 15) (k := 1) (by decide +kernel)) <|
  n_c (s_getR (pc := 16) (ci := 1) (k := 1) (idx := 23) nok1 (by decide) rfl (by decide +kernel) w_405) <|
  n_c (s_callV (pc := 19) (csX4_copyFrom) (by decide) okX4_copyFrom nok4 w_693 w_694 w_1388 (by decide +kernel)) <|
  n_c (s_aload_n (pc := 22) (k := 0) (by decide +kernel)) <|
  n_c (s_getR (pc := 23) (ci := 1) (k := 2) (idx := 32) nok1 (by decide) rfl (by decide +kernel) w_407) <|
  n_c (s_aload_n (pc := 26) (k := 1) (by decide +kernel)) <|
  n_c (s_getR (pc := 27) (ci := 1) (k := 2) (idx := 32) nok1 (by decide) rfl (by decide +kernel) w_407) <|
  n_c (s_callV (pc := 30) (csX7_copyFrom) (by decide) okX7_copyFrom nok7 w_1061 w_1062 w_1389 (by decide +kernel)) <|
  n_c (s_aload_n (pc := 33) (k := 0) (by decide +kernel)) <|
  n_c (s_getR (pc := 34) (ci := 1) (k := 3) (idx := 39) nok1 (by decide) rfl (by decide +kernel) w_410) <|
  n_c (s_aload_n (pc := 37) (k := 1) (by decide +kernel)) <|
  n_c (s_getR (pc := 38) (ci := 1) (k := 3) (idx := 39) nok1 (by decide) rfl (by decide +kernel) w_410) <|
  n_c (s_callV (pc := 41) (csX3_copyFrom) (by decide) okX3_copyFrom nok3 w_1052 w_1053 w_1390 (by decide +kernel)) <|
  n_c (s_aload_n (pc := 44) (k := 0) (by decide +kernel)) <|
  n_c (s_getR (pc := 45) (ci := 1) (k := 4) (idx := 43) nok1 (by decide) rfl (by decide +kernel) w_413) <|
  n_c (s_aload_n (pc := 48) (k := 1) (by decide +kernel)) <|
  n_c (s_getR (pc := 49) (ci := 1) (k := 4) (idx := 43) nok1 (by decide) rfl (by decide +kernel) w_413) <|
  n_c (s_callV (pc := 52) (csX7_copyFrom) (by decide) okX7_copyFrom nok7 w_1061 w_1062 w_1389 (by decide +kernel)) <|
  n_c (s_aload_n (pc := 55) (k := 0) (by decide +kernel)) <|
  n_c (s_getR (pc := 56) (ci := 1) (k := 5) (idx := 46) nok1 (by decide) rfl (by decide +kernel) w_416) <|
  n_c (s_aload_n (pc := 59) (k := 1) (by decide +kernel)) <|
  n_c (s_getR (pc := 60) (ci := 1) (k := 5) (idx := 46) nok1 (by decide) rfl (by decide +kernel) w_416) <|
  n_c (s_callV (pc := 63) (csX7_copyFrom) (by decide) okX7_copyFrom nok7 w_1061 w_1062 w_1389 (by decide +kernel)) <|
  n_c (s_aload_n (pc := 66) (k := 0) (by decide +kernel)) <|
  n_c (s_getR (pc := 67) (ci := 1) (k := 6) (idx := 49) nok1 (by decide) rfl (by decide +kernel) w_419) <|
  n_c (s_aload_n (pc := 70) (k := 1) (by decide +kernel)) <|
  n_c (s_getR (pc := 71) (ci := 1) (k := 6) (idx := 49) nok1 (by decide) rfl (by decide +kernel) w_419) <|
  n_c (s_callV (pc := 74) (csX7_copyFrom) (by decide) okX7_copyFrom nok7 w_1061 w_1062 w_1389 (by decide +kernel)) <|
  n_c (s_aload_n (pc := 77) (k := 0) (by decide +kernel)) <|
  n_c (s_getR (pc := 78) (ci := 1) (k := 7) (idx := 55) nok1 (by decide) rfl (by decide +kernel) w_422) <|
  n_c (s_aload_n (pc := 81) (k := 1) (by decide +kernel)) <|
  n_c (s_getR (pc := 82) (ci := 1) (k := 7) (idx := 55) nok1 (by decide) rfl (by decide +kernel) w_422) <|
  n_c (s_callV (pc := 85) (csX10_copyFrom) (by decide) okX10_copyFrom nok10 w_1392 w_1393 w_1391 (by decide +kernel)) <|
  n_c (s_vret (pc := 88) rfl (by decide +kernel)) <|
  n_e
def fX1_copyFrom (G : nG) (x0 : Nat) (x1 : Nat) (M : nM) : Option (Unit × nM) :=
  n_chk (Nat.beq (n_kd G x0) 1) <|
  n_chk (Nat.beq (n_kd G x1) 1) <|
  n_chk (Nat.beq (n_kd G (n_mr G x0 0)) 8 && true) <|
  (fX8_copyFrom G (n_mr G x0 0) (n_mr G x1 0) M).bind fun p1 =>
  n_chk (Nat.beq (n_kd G x0) 1) <|
  n_chk (Nat.beq (n_kd G x1) 1) <|
  n_chk (Nat.beq (n_kd G (n_mr G x0 1)) 4 && true) <|
  (fX4_copyFrom G (n_mr G x0 1) (n_mr G x1 1) p1.2).bind fun p2 =>
  n_chk (Nat.beq (n_kd G x0) 1) <|
  n_chk (Nat.beq (n_kd G x1) 1) <|
  n_chk (Nat.beq (n_kd G (n_mr G x0 2)) 7 && true) <|
  (fX7_copyFrom G (n_mr G x0 2) (n_mr G x1 2) p2.2).bind fun p3 =>
  n_chk (Nat.beq (n_kd G x0) 1) <|
  n_chk (Nat.beq (n_kd G x1) 1) <|
  n_chk (Nat.beq (n_kd G (n_mr G x0 3)) 3 && true) <|
  (fX3_copyFrom G (n_mr G x0 3) (n_mr G x1 3) p3.2).bind fun p4 =>
  n_chk (Nat.beq (n_kd G x0) 1) <|
  n_chk (Nat.beq (n_kd G x1) 1) <|
  n_chk (Nat.beq (n_kd G (n_mr G x0 4)) 7 && true) <|
  (fX7_copyFrom G (n_mr G x0 4) (n_mr G x1 4) p4.2).bind fun p5 =>
  n_chk (Nat.beq (n_kd G x0) 1) <|
  n_chk (Nat.beq (n_kd G x1) 1) <|
  n_chk (Nat.beq (n_kd G (n_mr G x0 5)) 7 && true) <|
  (fX7_copyFrom G (n_mr G x0 5) (n_mr G x1 5) p5.2).bind fun p6 =>
  n_chk (Nat.beq (n_kd G x0) 1) <|
  n_chk (Nat.beq (n_kd G x1) 1) <|
  n_chk (Nat.beq (n_kd G (n_mr G x0 6)) 7 && true) <|
  (fX7_copyFrom G (n_mr G x0 6) (n_mr G x1 6) p6.2).bind fun p7 =>
  n_chk (Nat.beq (n_kd G x0) 1) <|
  n_chk (Nat.beq (n_kd G x1) 1) <|
  n_chk (Nat.beq (n_kd G (n_mr G x0 7)) 10 && true) <|
  (fX10_copyFrom G (n_mr G x0 7) (n_mr G x1 7) p7.2).bind fun p8 =>
  some ((), p8.2)
set_option maxRecDepth 200000 in
theorem bX1_copyFrom_0 {l : Launch} {w : nW} {G : nG} (x0 : Nat) (x1 : Nat) (M : nM) (r : Unit × nM) (h : fX1_copyFrom G x0 x1 M = some r) : n_At l w 2 mX1_copyFrom 0 [(0, .ref x0), (1, .ref x1)] [] (G, M) (dv_v r.1, (G, r.2)) :=
  n_seg (fin := n_fin dv_v G) (K := []) 44 (iX1_copyFrom) n_ke (by rfl) h
theorem eX1_copyFrom {l : Launch} {w : nW} {G : nG} (z0 : Nat) (z1 : Nat) (M : nM) (r : Unit × nM) (h : fX1_copyFrom G z0 z1 M = some r) : n_Met l w 2 mX1_copyFrom [.ref z0, .ref z1] (G, M) (dv_v r.1, (G, r.2)) :=
  n_entry (by decide +kernel) rfl (Nat.le_of_ble_eq_true rfl) (n_sub (lv := [(0, .ref z0), (1, .ref z1)]) (n_qc rfl (n_qc rfl n_qe)) (bX1_copyFrom_0 z0 z1 M r h))
abbrev hX1_copyFrom (G : nG) : nF := fun T as M k => n_pR as (fun z0 as => n_pR as (fun z1 as => n_pE as ((fX1_copyFrom G z0 z1 M).bind fun p => k (dv_v p.1) p.2)))
theorem csX1_copyFrom {l : Launch} {w : nW} {G : nG} : n_CS l w 2 mX1_copyFrom G (hX1_copyFrom G) := fun T as M k r h => by
  obtain ⟨z0, t0, rfl, h1⟩ := n_pR_x h
  obtain ⟨z1, t1, rfl, h2⟩ := n_pR_x h1
  obtain ⟨rfl, hE⟩ := n_pE_x h2
  obtain ⟨p, hp, hk⟩ := Option.bind_eq_some_iff.mp hE
  exact ⟨_, _, eX1_copyFrom z0 z1 M p hp, hk⟩
/-! ===== SleightHouseModel.keeps(I)I ===== -/
def mX12_keeps : nY := (RX12, yX12_keeps, cX12_keeps, 2, some .int)
theorem okX12_keeps : n_MOK mX12_keeps 1 := ⟨w_2164, w_151, ⟨by decide +kernel, by decide +kernel, by decide +kernel⟩, by decide⟩
abbrev aX12_keeps : List (Nat × nO (Int32 × nM)) := [(0, o_aload 0 1), (1, o_aload 0 2), (2, o_gIc 107 77 5), (5, o_push (.int (1 : Int32)) 6), (6, o_iadd 7), (7, o_pIc 107 77 10), (10, o_aload 0 11), (11, o_gIc 107 75 14), (14, oi_ne 29 17), (17, o_aload 0 18), (18, o_gRc 107 151 21), (21, o_aload 0 22), (22, o_gIc 107 77 25), (25, o_push (.int (1 : Int32)) 26), (26, o_isub 27), (27, o_aldc 151 2400 28), (28, o_iret), (29, o_aload 0 30), (30, o_gRc 107 151 33), (33, o_aload 0 34), (34, o_gIc 107 77 37), (37, o_push (.int (1 : Int32)) 38), (38, o_isub 39), (39, o_iload 1 40), (40, o_iastc 151 2400 41), (41, o_iload 1 42), (42, o_iret)]
set_option maxRecDepth 200000 in
theorem iX12_keeps {l : Launch} {w : nW} {G : nG} (hG : n_GOK G) : n_AllS l w 0 mX12_keeps G (n_fin dv_i G) (aX12_keeps) :=
  n_c (s_aload_n (pc := 0) (k := 0) (by decide +kernel)) <|
  n_c (s_aload_n (pc := 1) (k := 0) (by decide +kernel)) <|
  n_c (s_gIc (s_getI (pc := 2) (ci := 12) (k := 77) (idx := 508) nok12 (by decide) rfl (by decide +kernel) w_1484) (gk107 hG)) <|
  n_c (s_iconst (pc := 5) (n := 1) (by decide +kernel) (by decide +kernel)) <|
  n_c (s_iadd (pc := 6) (by decide +kernel)) <|
  n_c (s_pIc (s_putI (pc := 7) (ci := 12) (k := 77) (idx := 508) nok12 (by decide) rfl rfl (by decide +kernel) w_1484) (gk107 hG)) <|
  n_c (s_aload_n (pc := 10) (k := 0) (by decide +kernel)) <|
  n_c (s_gIc (s_getI (pc := 11) (ci := 12) (k := 75) (idx := 511) nok12 (by decide) rfl (by decide +kernel) w_1482) (gk107 hG)) <|
  n_c (s_if_ne (pc := 14) (off := 15) (by decide +kernel) (by decide +kernel)) <|
  n_c (s_aload_n (pc := 17) (k := 0) (by decide +kernel)) <|
  n_c (s_gRc (s_getR (pc := 18) (ci := 12) (k := 78) (idx := 143) nok12 (by decide) rfl (by decide +kernel) w_1485) (gk107 hG) (gm107_78 hG)) <|
  n_c (s_aload_n (pc := 21) (k := 0) (by decide +kernel)) <|
  n_c (s_gIc (s_getI (pc := 22) (ci := 12) (k := 77) (idx := 508) nok12 (by decide) rfl (by decide +kernel) w_1484) (gk107 hG)) <|
  n_c (s_iconst (pc := 25) (n := 1) (by decide +kernel) (by decide +kernel)) <|
  n_c (s_isub (pc := 26) (by decide +kernel)) <|
  n_c (s_aldc (s_iaload (pc := 27) (by decide +kernel)) (gk151 hG) (gl151 hG)) <|
  n_c (s_iret (pc := 28) rfl (by decide +kernel)) <|
  n_c (s_aload_n (pc := 29) (k := 0) (by decide +kernel)) <|
  n_c (s_gRc (s_getR (pc := 30) (ci := 12) (k := 78) (idx := 143) nok12 (by decide) rfl (by decide +kernel) w_1485) (gk107 hG) (gm107_78 hG)) <|
  n_c (s_aload_n (pc := 33) (k := 0) (by decide +kernel)) <|
  n_c (s_gIc (s_getI (pc := 34) (ci := 12) (k := 77) (idx := 508) nok12 (by decide) rfl (by decide +kernel) w_1484) (gk107 hG)) <|
  n_c (s_iconst (pc := 37) (n := 1) (by decide +kernel) (by decide +kernel)) <|
  n_c (s_isub (pc := 38) (by decide +kernel)) <|
  n_c (s_iload_n (pc := 39) (k := 1) (by decide +kernel)) <|
  n_c (s_iastc (s_iastore (pc := 40) (by decide +kernel)) (gk151 hG) (gl151 hG)) <|
  n_c (s_iload_n (pc := 41) (k := 1) (by decide +kernel)) <|
  n_c (s_iret (pc := 42) rfl (by decide +kernel)) <|
  n_e
def fX12_keeps (x1 : Int32) (M : nM) : Option (Int32 × nM) :=
  let M1 : nM := n_up M 107 77 ((M 107 77) + (1 : Int32))
  if ¬ (M1 107 75) = 0 then
    n_chk (n_ib 2400 ((M1 107 77) - (1 : Int32))) <|
    let M2 : nM := n_up M1 151 ((M1 107 77) - (1 : Int32)).toNatClampNeg x1
    some (x1, M2)
  else
    n_chk (n_ib 2400 ((M1 107 77) - (1 : Int32))) <|
    some ((M1 151 ((M1 107 77) - (1 : Int32)).toNatClampNeg), M1)
set_option maxRecDepth 200000 in
theorem bX12_keeps_0 {l : Launch} {w : nW} {G : nG} (hG : n_GOK G) (x1 : Int32) (M : nM) (r : Int32 × nM) (h : fX12_keeps x1 M = some r) : n_At l w 0 mX12_keeps 0 [(0, .ref 107), (1, .int x1)] [] (G, M) (dv_i r.1, (G, r.2)) :=
  n_seg (fin := n_fin dv_i G) (K := []) 30 (iX12_keeps hG) n_ke (by rfl) h
theorem eX12_keeps {l : Launch} {w : nW} {G : nG} (hG : n_GOK G) (z1 : Int32) (M : nM) (r : Int32 × nM) (h : fX12_keeps z1 M = some r) : n_Met l w 0 mX12_keeps [.ref 107, .int z1] (G, M) (dv_i r.1, (G, r.2)) :=
  n_entry (by decide +kernel) rfl (Nat.le_of_ble_eq_true rfl) (n_sub (lv := [(0, .ref 107), (1, .int z1)]) (n_qc rfl (n_qc rfl n_qe)) (bX12_keeps_0 hG z1 M r h))
abbrev hX12_keeps : nF := fun T as M k => n_pC 107 as (fun as => n_pI as (fun z1 as => n_pE as ((fX12_keeps z1 M).bind fun p => k (dv_i p.1) p.2)))
theorem csX12_keeps {l : Launch} {w : nW} {G : nG} (hG : n_GOK G) : n_CS l w 0 mX12_keeps G (hX12_keeps) := fun T as M k r h => by
  obtain ⟨t0, rfl, h1⟩ := n_pC_x h
  obtain ⟨z1, t1, rfl, h2⟩ := n_pI_x h1
  obtain ⟨rfl, hE⟩ := n_pE_x h2
  obtain ⟨p, hp, hk⟩ := Option.bind_eq_some_iff.mp hE
  exact ⟨_, _, eX12_keeps hG z1 M p hp, hk⟩
/-! ===== SleightHouseModel.keepsMany()V ===== -/
def mX12_keepsMany : nY := (RX12, yX12_keepsMany, cX12_keepsMany, 1, none)
theorem okX12_keepsMany : n_MOK mX12_keepsMany 0 := ⟨w_2168, w_151, ⟨by decide +kernel, by decide +kernel, by decide +kernel⟩, by decide⟩
abbrev aX12_keepsMany : List (Nat × nO (Unit × nM)) := [(0, o_aload 0 1), (1, o_aload 0 2), (2, o_aload 0 3), (3, o_gIc 107 6 6), (6, o_callVc 107 1 (hX12_keeps) 9), (9, o_pIc 107 6 12), (12, o_aload 0 13), (13, o_aload 0 14), (14, o_aload 0 15), (15, o_gIc 107 7 18), (18, o_callVc 107 1 (hX12_keeps) 21), (21, o_pIc 107 7 24), (24, o_aload 0 25), (25, o_aload 0 26), (26, o_aload 0 27), (27, o_gIc 107 37 30), (30, o_callVc 107 1 (hX12_keeps) 33), (33, o_pIc 107 37 36), (36, o_aload 0 37), (37, o_aload 0 38), (38, o_aload 0 39), (39, o_gIc 107 39 42), (42, o_callVc 107 1 (hX12_keeps) 45), (45, o_pIc 107 39 48), (48, o_aload 0 49), (49, o_aload 0 50), (50, o_aload 0 51), (51, o_gIc 107 41 54), (54, o_callVc 107 1 (hX12_keeps) 57), (57, o_pIc 107 41 60), (60, o_aload 0 61), (61, o_aload 0 62), (62, o_aload 0 63), (63, o_gIc 107 46 66), (66, o_callVc 107 1 (hX12_keeps) 69), (69, o_pIc 107 46 72), (72, o_aload 0 73), (73, o_aload 0 74), (74, o_aload 0 75), (75, o_gIc 107 49 78), (78, o_callVc 107 1 (hX12_keeps) 81), (81, o_pIc 107 49 84), (84, o_aload 0 85), (85, o_aload 0 86), (86, o_aload 0 87), (87, o_gIc 107 51 90), (90, o_callVc 107 1 (hX12_keeps) 93), (93, o_pIc 107 51 96), (96, o_aload 0 97), (97, o_aload 0 98), (98, o_aload 0 99), (99, o_gIc 107 55 102), (102, o_callVc 107 1 (hX12_keeps) 105), (105, o_pIc 107 55 108), (108, o_aload 0 109), (109, o_aload 0 110), (110, o_aload 0 111), (111, o_gIc 107 65 114), (114, o_callVc 107 1 (hX12_keeps) 117), (117, o_pIc 107 65 120), (120, o_aload 0 121), (121, o_aload 0 122), (122, o_aload 0 123), (123, o_gIc 107 70 126), (126, o_callVc 107 1 (hX12_keeps) 129), (129, o_pIc 107 70 132), (132, o_aload 0 133), (133, o_aload 0 134), (134, o_aload 0 135), (135, o_gIc 107 72 138), (138, o_callVc 107 1 (hX12_keeps) 141), (141, o_pIc 107 72 144), (144, o_vret)]
set_option maxRecDepth 200000 in
theorem iX12_keepsMany {l : Launch} {w : nW} {G : nG} (hG : n_GOK G) : n_AllS l w 1 mX12_keepsMany G (n_fin dv_v G) (aX12_keepsMany) :=
  n_c (s_aload_n (pc := 0) (k := 0) (by decide +kernel)) <|
  n_c (s_aload_n (pc := 1) (k := 0) (by decide +kernel)) <|
  n_c (s_aload_n (pc := 2) (k := 0) (by decide +kernel)) <|
  n_c (s_gIc (s_getI (pc := 3) (ci := 12) (k := 6) (idx := 158) nok12 (by decide) rfl (by decide +kernel) w_1413) (gk107 hG)) <|
  n_c (s_callVc (s_callV (pc := 6) (csX12_keeps hG) (by decide) okX12_keeps nok12 w_2163 w_130 w_2161 (by decide +kernel)) (gk107 hG)) <|
  n_c (s_pIc (s_putI (pc := 9) (ci := 12) (k := 6) (idx := 158) nok12 (by decide) rfl rfl (by decide +kernel) w_1413) (gk107 hG)) <|
  n_c (s_aload_n (pc := 12) (k := 0) (by decide +kernel)) <|
  n_c (s_aload_n (pc := 13) (k := 0) (by decide +kernel)) <|
  n_c (s_aload_n (pc := 14) (k := 0) (by decide +kernel)) <|
  n_c (s_gIc (s_getI (pc := 15) (ci := 12) (k := 7) (idx := 161) nok12 (by decide) rfl (by decide +kernel) w_1414) (gk107 hG)) <|
  n_c (s_callVc (s_callV (pc := 18) (csX12_keeps hG) (by decide) okX12_keeps nok12 w_2163 w_130 w_2161 (by decide +kernel)) (gk107 hG)) <|
  n_c (s_pIc (s_putI (pc := 21) (ci := 12) (k := 7) (idx := 161) nok12 (by decide) rfl rfl (by decide +kernel) w_1414) (gk107 hG)) <|
  n_c (s_aload_n (pc := 24) (k := 0) (by decide +kernel)) <|
  n_c (s_aload_n (pc := 25) (k := 0) (by decide +kernel)) <|
  n_c (s_aload_n (pc := 26) (k := 0) (by decide +kernel)) <|
  n_c (s_gIc (s_getI (pc := 27) (ci := 12) (k := 37) (idx := 323) nok12 (by decide) rfl (by decide +kernel) w_1444) (gk107 hG)) <|
  n_c (s_callVc (s_callV (pc := 30) (csX12_keeps hG) (by decide) okX12_keeps nok12 w_2163 w_130 w_2161 (by decide +kernel)) (gk107 hG)) <|
  n_c (s_pIc (s_putI (pc := 33) (ci := 12) (k := 37) (idx := 323) nok12 (by decide) rfl rfl (by decide +kernel) w_1444) (gk107 hG)) <|
  n_c (s_aload_n (pc := 36) (k := 0) (by decide +kernel)) <|
  n_c (s_aload_n (pc := 37) (k := 0) (by decide +kernel)) <|
  n_c (s_aload_n (pc := 38) (k := 0) (by decide +kernel)) <|
  n_c (s_gIc (s_getI (pc := 39) (ci := 12) (k := 39) (idx := 326) nok12 (by decide) rfl (by decide +kernel) w_1446) (gk107 hG)) <|
  n_c (s_callVc (s_callV (pc := 42) (csX12_keeps hG) (by decide) okX12_keeps nok12 w_2163 w_130 w_2161 (by decide +kernel)) (gk107 hG)) <|
  n_c (s_pIc (s_putI (pc := 45) (ci := 12) (k := 39) (idx := 326) nok12 (by decide) rfl rfl (by decide +kernel) w_1446) (gk107 hG)) <|
  n_c (s_aload_n (pc := 48) (k := 0) (by decide +kernel)) <|
  n_c (s_aload_n (pc := 49) (k := 0) (by decide +kernel)) <|
  n_c (s_aload_n (pc := 50) (k := 0) (by decide +kernel)) <|
  n_c (s_gIc (s_getI (pc := 51) (ci := 12) (k := 41) (idx := 320) nok12 (by decide) rfl (by decide +kernel) w_1448) (gk107 hG)) <|
  n_c (s_callVc (s_callV (pc := 54) (csX12_keeps hG) (by decide) okX12_keeps nok12 w_2163 w_130 w_2161 (by decide +kernel)) (gk107 hG)) <|
  n_c (s_pIc (s_putI (pc := 57) (ci := 12) (k := 41) (idx := 320) nok12 (by decide) rfl rfl (by decide +kernel) w_1448) (gk107 hG)) <|
  n_c (s_aload_n (pc := 60) (k := 0) (by decide +kernel)) <|
  n_c (s_aload_n (pc := 61) (k := 0) (by decide +kernel)) <|
  n_c (s_aload_n (pc := 62) (k := 0) (by decide +kernel)) <|
  n_c (s_gIc (s_getI (pc := 63) (ci := 12) (k := 46) (idx := 419) nok12 (by decide) rfl (by decide +kernel) w_1453) (gk107 hG)) <|
  n_c (s_callVc (s_callV (pc := 66) (csX12_keeps hG) (by decide) okX12_keeps nok12 w_2163 w_130 w_2161 (by decide +kernel)) (gk107 hG)) <|
  n_c (s_pIc (s_putI (pc := 69) (ci := 12) (k := 46) (idx := 419) nok12 (by decide) rfl rfl (by decide +kernel) w_1453) (gk107 hG)) <|
  n_c (s_aload_n (pc := 72) (k := 0) (by decide +kernel)) <|
  n_c (s_aload_n (pc := 73) (k := 0) (by decide +kernel)) <|
  n_c (s_aload_n (pc := 74) (k := 0) (by decide +kernel)) <|
  n_c (s_gIc (s_getI (pc := 75) (ci := 12) (k := 49) (idx := 431) nok12 (by decide) rfl (by decide +kernel) w_1456) (gk107 hG)) <|
  n_c (s_callVc (s_callV (pc := 78) (csX12_keeps hG) (by decide) okX12_keeps nok12 w_2163 w_130 w_2161 (by decide +kernel)) (gk107 hG)) <|
  n_c (s_pIc (s_putI (pc := 81) (ci := 12) (k := 49) (idx := 431) nok12 (by decide) rfl rfl (by decide +kernel) w_1456) (gk107 hG)) <|
  n_c (s_aload_n (pc := 84) (k := 0) (by decide +kernel)) <|
  n_c (s_aload_n (pc := 85) (k := 0) (by decide +kernel)) <|
  n_c (s_aload_n (pc := 86) (k := 0) (by decide +kernel)) <|
  n_c (s_gIc (s_getI (pc := 87) (ci := 12) (k := 51) (idx := 440) nok12 (by decide) rfl (by decide +kernel) w_1458) (gk107 hG)) <|
  n_c (s_callVc (s_callV (pc := 90) (csX12_keeps hG) (by decide) okX12_keeps nok12 w_2163 w_130 w_2161 (by decide +kernel)) (gk107 hG)) <|
  n_c (s_pIc (s_putI (pc := 93) (ci := 12) (k := 51) (idx := 440) nok12 (by decide) rfl rfl (by decide +kernel) w_1458) (gk107 hG)) <|
  n_c (s_aload_n (pc := 96) (k := 0) (by decide +kernel)) <|
  n_c (s_aload_n (pc := 97) (k := 0) (by decide +kernel)) <|
  n_c (s_aload_n (pc := 98) (k := 0) (by decide +kernel)) <|
  n_c (s_gIc (s_getI (pc := 99) (ci := 12) (k := 55) (idx := 452) nok12 (by decide) rfl (by decide +kernel) w_1462) (gk107 hG)) <|
  n_c (s_callVc (s_callV (pc := 102) (csX12_keeps hG) (by decide) okX12_keeps nok12 w_2163 w_130 w_2161 (by decide +kernel)) (gk107 hG)) <|
  n_c (s_pIc (s_putI (pc := 105) (ci := 12) (k := 55) (idx := 452) nok12 (by decide) rfl rfl (by decide +kernel) w_1462) (gk107 hG)) <|
  n_c (s_aload_n (pc := 108) (k := 0) (by decide +kernel)) <|
  n_c (s_aload_n (pc := 109) (k := 0) (by decide +kernel)) <|
  n_c (s_aload_n (pc := 110) (k := 0) (by decide +kernel)) <|
  n_c (s_gIc (s_getI (pc := 111) (ci := 12) (k := 65) (idx := 490) nok12 (by decide) rfl (by decide +kernel) w_1472) (gk107 hG)) <|
  n_c (s_callVc (s_callV (pc := 114) (csX12_keeps hG) (by decide) okX12_keeps nok12 w_2163 w_130 w_2161 (by decide +kernel)) (gk107 hG)) <|
  n_c (s_pIc (s_putI (pc := 117) (ci := 12) (k := 65) (idx := 490) nok12 (by decide) rfl rfl (by decide +kernel) w_1472) (gk107 hG)) <|
  n_c (s_aload_n (pc := 120) (k := 0) (by decide +kernel)) <|
  n_c (s_aload_n (pc := 121) (k := 0) (by decide +kernel)) <|
  n_c (s_aload_n (pc := 122) (k := 0) (by decide +kernel)) <|
  n_c (s_gIc (s_getI (pc := 123) (ci := 12) (k := 70) (idx := 499) nok12 (by decide) rfl (by decide +kernel) w_1477) (gk107 hG)) <|
  n_c (s_callVc (s_callV (pc := 126) (csX12_keeps hG) (by decide) okX12_keeps nok12 w_2163 w_130 w_2161 (by decide +kernel)) (gk107 hG)) <|
  n_c (s_pIc (s_putI (pc := 129) (ci := 12) (k := 70) (idx := 499) nok12 (by decide) rfl rfl (by decide +kernel) w_1477) (gk107 hG)) <|
  n_c (s_aload_n (pc := 132) (k := 0) (by decide +kernel)) <|
  n_c (s_aload_n (pc := 133) (k := 0) (by decide +kernel)) <|
  n_c (s_aload_n (pc := 134) (k := 0) (by decide +kernel)) <|
  n_c (s_gIc (s_getI (pc := 135) (ci := 12) (k := 72) (idx := 502) nok12 (by decide) rfl (by decide +kernel) w_1479) (gk107 hG)) <|
  n_c (s_callVc (s_callV (pc := 138) (csX12_keeps hG) (by decide) okX12_keeps nok12 w_2163 w_130 w_2161 (by decide +kernel)) (gk107 hG)) <|
  n_c (s_pIc (s_putI (pc := 141) (ci := 12) (k := 72) (idx := 502) nok12 (by decide) rfl rfl (by decide +kernel) w_1479) (gk107 hG)) <|
  n_c (s_vret (pc := 144) rfl (by decide +kernel)) <|
  n_e
def fX12_keepsMany (M : nM) : Option (Unit × nM) :=
  (fX12_keeps (M 107 6) M).bind fun p1 =>
  let M2 : nM := n_up p1.2 107 6 p1.1
  (fX12_keeps (M2 107 7) M2).bind fun p3 =>
  let M4 : nM := n_up p3.2 107 7 p3.1
  (fX12_keeps (M4 107 37) M4).bind fun p5 =>
  let M6 : nM := n_up p5.2 107 37 p5.1
  (fX12_keeps (M6 107 39) M6).bind fun p7 =>
  let M8 : nM := n_up p7.2 107 39 p7.1
  (fX12_keeps (M8 107 41) M8).bind fun p9 =>
  let M10 : nM := n_up p9.2 107 41 p9.1
  (fX12_keeps (M10 107 46) M10).bind fun p11 =>
  let M12 : nM := n_up p11.2 107 46 p11.1
  (fX12_keeps (M12 107 49) M12).bind fun p13 =>
  let M14 : nM := n_up p13.2 107 49 p13.1
  (fX12_keeps (M14 107 51) M14).bind fun p15 =>
  let M16 : nM := n_up p15.2 107 51 p15.1
  (fX12_keeps (M16 107 55) M16).bind fun p17 =>
  let M18 : nM := n_up p17.2 107 55 p17.1
  (fX12_keeps (M18 107 65) M18).bind fun p19 =>
  let M20 : nM := n_up p19.2 107 65 p19.1
  (fX12_keeps (M20 107 70) M20).bind fun p21 =>
  let M22 : nM := n_up p21.2 107 70 p21.1
  (fX12_keeps (M22 107 72) M22).bind fun p23 =>
  let M24 : nM := n_up p23.2 107 72 p23.1
  some ((), M24)
set_option maxRecDepth 200000 in
theorem bX12_keepsMany_0 {l : Launch} {w : nW} {G : nG} (hG : n_GOK G) (M : nM) (r : Unit × nM) (h : fX12_keepsMany M = some r) : n_At l w 1 mX12_keepsMany 0 [(0, .ref 107)] [] (G, M) (dv_v r.1, (G, r.2)) :=
  n_seg (fin := n_fin dv_v G) (K := []) 76 (iX12_keepsMany hG) n_ke (by rfl) h
theorem eX12_keepsMany {l : Launch} {w : nW} {G : nG} (hG : n_GOK G) (M : nM) (r : Unit × nM) (h : fX12_keepsMany M = some r) : n_Met l w 1 mX12_keepsMany [.ref 107] (G, M) (dv_v r.1, (G, r.2)) :=
  n_entry (by decide +kernel) rfl (Nat.le_of_ble_eq_true rfl) (n_sub (lv := [(0, .ref 107)]) (n_qc rfl n_qe) (bX12_keepsMany_0 hG M r h))
abbrev hX12_keepsMany : nF := fun T as M k => n_pC 107 as (fun as => n_pE as ((fX12_keepsMany M).bind fun p => k (dv_v p.1) p.2))
theorem csX12_keepsMany {l : Launch} {w : nW} {G : nG} (hG : n_GOK G) : n_CS l w 1 mX12_keepsMany G (hX12_keepsMany) := fun T as M k r h => by
  obtain ⟨t0, rfl, h1⟩ := n_pC_x h
  obtain ⟨rfl, hE⟩ := n_pE_x h1
  obtain ⟨p, hp, hk⟩ := Option.bind_eq_some_iff.mp hE
  exact ⟨_, _, eX12_keepsMany hG M p hp, hk⟩
/-! ===== SleightHouseModel.keepsThings()V ===== -/
def mX12_keepsThings : nY := (RX12, yX12_keepsThings, cX12_keepsThings, 2, none)
theorem okX12_keepsThings : n_MOK mX12_keepsThings 0 := ⟨w_2172, w_151, ⟨by decide +kernel, by decide +kernel, by decide +kernel⟩, by decide⟩
abbrev aX12_keepsThings (N : Nat) : List (Nat × nO (Unit × nM)) := [(0, o_push (.int (0 : Int32)) 1), (1, o_istore 2 1 2), (2, o_iload 1 3), (3, o_push (.int (16 : Int32)) 5), (5, oc_ge 78 8), (8, o_aload 0 9), (9, o_gRc 107 112 12), (12, o_iload 1 13), (13, o_aload 0 14), (14, o_aload 0 15), (15, o_gRc 107 112 18), (18, o_iload 1 19), (19, o_aldc 112 16 20), (20, o_callVc 107 1 (hX12_keeps) 23), (23, o_iastc 112 16 24), (24, o_aload 0 25), (25, o_gRc 107 113 28), (28, o_iload 1 29), (29, o_aload 0 30), (30, o_aload 0 31), (31, o_gRc 107 113 34), (34, o_iload 1 35), (35, o_aldc 113 16 36), (36, o_callVc 107 1 (hX12_keeps) 39), (39, o_iastc 113 16 40), (40, o_aload 0 41), (41, o_gRc 107 133 44), (44, o_iload 1 45), (45, o_aload 0 46), (46, o_aload 0 47), (47, o_gRc 107 133 50), (50, o_iload 1 51), (51, o_aldc 133 16 52), (52, o_callVc 107 1 (hX12_keeps) 55), (55, o_iastc 133 16 56), (56, o_aload 0 57), (57, o_gRc 107 134 60), (60, o_iload 1 61), (61, o_aload 0 62), (62, o_aload 0 63), (63, o_gRc 107 134 66), (66, o_iload 1 67), (67, o_aldc 134 16 68), (68, o_callVc 107 1 (hX12_keeps) 71), (71, o_iastc 134 16 72), (72, o_inc 2 1 (1 : Int32) 75), (75, o_goto 2), (78, o_push (.int (0 : Int32)) 79), (79, o_istore 2 1 80), (80, o_iload 1 81), (81, o_push (.int (12 : Int32)) 83), (83, oc_ge 172 86), (86, o_aload 0 87), (87, o_gRc 107 111 90), (90, o_iload 1 91), (91, o_aload 0 92), (92, o_aload 0 93), (93, o_gRc 107 111 96), (96, o_iload 1 97), (97, o_aldc 111 12 98), (98, o_callVc 107 1 (hX12_keeps) 101), (101, o_iastc 111 12 102), (102, o_aload 0 103), (103, o_gRc 107 114 106), (106, o_iload 1 107), (107, o_aload 0 108), (108, o_aload 0 109), (109, o_gRc 107 114 112), (112, o_iload 1 113), (113, o_aldc 114 12 114), (114, o_callVc 107 1 (hX12_keeps) 117), (117, o_iastc 114 12 118), (118, o_aload 0 119), (119, o_gRc 107 115 122), (122, o_iload 1 123), (123, o_aload 0 124), (124, o_aload 0 125), (125, o_gRc 107 115 128), (128, o_iload 1 129), (129, o_aldc 115 12 130), (130, o_callVc 107 1 (hX12_keeps) 133), (133, o_iastc 115 12 134), (134, o_aload 0 135), (135, o_gRc 107 129 138), (138, o_iload 1 139), (139, o_aload 0 140), (140, o_aload 0 141), (141, o_gRc 107 129 144), (144, o_iload 1 145), (145, o_aldc 129 24 146), (146, o_callVc 107 1 (hX12_keeps) 149), (149, o_iastc 129 24 150), (150, o_aload 0 151), (151, o_gRc 107 141 154), (154, o_iload 1 155), (155, o_aload 0 156), (156, o_aload 0 157), (157, o_gRc 107 141 160), (160, o_iload 1 161), (161, o_aldc 141 12 162), (162, o_callVc 107 1 (hX12_keeps) 165), (165, o_iastc 141 12 166), (166, o_inc 2 1 (1 : Int32) 169), (169, o_goto 80), (172, o_vret)]
set_option maxRecDepth 200000 in
theorem iX12_keepsThings {l : Launch} {w : nW} (N : Nat) {G : nG} (hG : n_GOK G) : n_AllS l w 1 mX12_keepsThings G (n_fin dv_v G) (aX12_keepsThings N) :=
  n_c (s_iconst (pc := 0) (n := 0) (by decide +kernel) (by decide +kernel)) <|
  n_c (s_istore_n (pc := 1) (k := 1) (by decide +kernel)) <|
  n_c (s_iload_n (pc := 2) (k := 1) (by decide +kernel)) <|
  n_c (s_bipush (pc := 3) (n := 16) (by decide +kernel) (by decide +kernel)) <|
  n_c (s_icmp_ge (pc := 5) (off := 73) (by decide +kernel) (by decide +kernel)) <|
  n_c (s_aload_n (pc := 8) (k := 0) (by decide +kernel)) <|
  n_c (s_gRc (s_getR (pc := 9) (ci := 12) (k := 9) (idx := 22) nok12 (by decide) rfl (by decide +kernel) w_1416) (gk107 hG) (gm107_9 hG)) <|
  n_c (s_iload_n (pc := 12) (k := 1) (by decide +kernel)) <|
  n_c (s_aload_n (pc := 13) (k := 0) (by decide +kernel)) <|
  n_c (s_aload_n (pc := 14) (k := 0) (by decide +kernel)) <|
  n_c (s_gRc (s_getR (pc := 15) (ci := 12) (k := 9) (idx := 22) nok12 (by decide) rfl (by decide +kernel) w_1416) (gk107 hG) (gm107_9 hG)) <|
  n_c (s_iload_n (pc := 18) (k := 1) (by decide +kernel)) <|
  n_c (s_aldc (s_iaload (pc := 19) (by decide +kernel)) (gk112 hG) (gl112 hG)) <|
  n_c (s_callVc (s_callV (pc := 20) (csX12_keeps hG) (by decide) okX12_keeps nok12 w_2163 w_130 w_2161 (by decide +kernel)) (gk107 hG)) <|
  n_c (s_iastc (s_iastore (pc := 23) (by decide +kernel)) (gk112 hG) (gl112 hG)) <|
  n_c (s_aload_n (pc := 24) (k := 0) (by decide +kernel)) <|
  n_c (s_gRc (s_getR (pc := 25) (ci := 12) (k := 10) (idx := 25) nok12 (by decide) rfl (by decide +kernel) w_1417) (gk107 hG) (gm107_10 hG)) <|
  n_c (s_iload_n (pc := 28) (k := 1) (by decide +kernel)) <|
  n_c (s_aload_n (pc := 29) (k := 0) (by decide +kernel)) <|
  n_c (s_aload_n (pc := 30) (k := 0) (by decide +kernel)) <|
  n_c (s_gRc (s_getR (pc := 31) (ci := 12) (k := 10) (idx := 25) nok12 (by decide) rfl (by decide +kernel) w_1417) (gk107 hG) (gm107_10 hG)) <|
  n_c (s_iload_n (pc := 34) (k := 1) (by decide +kernel)) <|
  n_c (s_aldc (s_iaload (pc := 35) (by decide +kernel)) (gk113 hG) (gl113 hG)) <|
  n_c (s_callVc (s_callV (pc := 36) (csX12_keeps hG) (by decide) okX12_keeps nok12 w_2163 w_130 w_2161 (by decide +kernel)) (gk107 hG)) <|
  n_c (s_iastc (s_iastore (pc := 39) (by decide +kernel)) (gk113 hG) (gl113 hG)) <|
  n_c (s_aload_n (pc := 40) (k := 0) (by decide +kernel)) <|
  n_c (s_gRc (s_getR (pc := 41) (ci := 12) (k := 47) (idx := 89) nok12 (by decide) rfl (by decide +kernel) w_1454) (gk107 hG) (gm107_47 hG)) <|
  n_c (s_iload_n (pc := 44) (k := 1) (by decide +kernel)) <|
  n_c (s_aload_n (pc := 45) (k := 0) (by decide +kernel)) <|
  n_c (s_aload_n (pc := 46) (k := 0) (by decide +kernel)) <|
  n_c (s_gRc (s_getR (pc := 47) (ci := 12) (k := 47) (idx := 89) nok12 (by decide) rfl (by decide +kernel) w_1454) (gk107 hG) (gm107_47 hG)) <|
  n_c (s_iload_n (pc := 50) (k := 1) (by decide +kernel)) <|
  n_c (s_aldc (s_iaload (pc := 51) (by decide +kernel)) (gk133 hG) (gl133 hG)) <|
  n_c (s_callVc (s_callV (pc := 52) (csX12_keeps hG) (by decide) okX12_keeps nok12 w_2163 w_130 w_2161 (by decide +kernel)) (gk107 hG)) <|
  n_c (s_iastc (s_iastore (pc := 55) (by decide +kernel)) (gk133 hG) (gl133 hG)) <|
  n_c (s_aload_n (pc := 56) (k := 0) (by decide +kernel)) <|
  n_c (s_gRc (s_getR (pc := 57) (ci := 12) (k := 48) (idx := 92) nok12 (by decide) rfl (by decide +kernel) w_1455) (gk107 hG) (gm107_48 hG)) <|
  n_c (s_iload_n (pc := 60) (k := 1) (by decide +kernel)) <|
  n_c (s_aload_n (pc := 61) (k := 0) (by decide +kernel)) <|
  n_c (s_aload_n (pc := 62) (k := 0) (by decide +kernel)) <|
  n_c (s_gRc (s_getR (pc := 63) (ci := 12) (k := 48) (idx := 92) nok12 (by decide) rfl (by decide +kernel) w_1455) (gk107 hG) (gm107_48 hG)) <|
  n_c (s_iload_n (pc := 66) (k := 1) (by decide +kernel)) <|
  n_c (s_aldc (s_iaload (pc := 67) (by decide +kernel)) (gk134 hG) (gl134 hG)) <|
  n_c (s_callVc (s_callV (pc := 68) (csX12_keeps hG) (by decide) okX12_keeps nok12 w_2163 w_130 w_2161 (by decide +kernel)) (gk107 hG)) <|
  n_c (s_iastc (s_iastore (pc := 71) (by decide +kernel)) (gk134 hG) (gl134 hG)) <|
  n_c (s_iinc (pc := 72) (n := 1) (by decide +kernel) (by decide +kernel)) <|
  n_c (s_goto (pc := 75) (off := -73) (by decide +kernel) (by decide +kernel)) <|
  n_c (s_iconst (pc := 78) (n := 0) (by decide +kernel) (by decide +kernel)) <|
  n_c (s_istore_n (pc := 79) (k := 1) (by decide +kernel)) <|
  n_c (s_iload_n (pc := 80) (k := 1) (by decide +kernel)) <|
  n_c (s_bipush (pc := 81) (n := 12) (by decide +kernel) (by decide +kernel)) <|
  n_c (s_icmp_ge (pc := 83) (off := 89) (by decide +kernel) (by decide +kernel)) <|
  n_c (s_aload_n (pc := 86) (k := 0) (by decide +kernel)) <|
  n_c (s_gRc (s_getR (pc := 87) (ci := 12) (k := 8) (idx := 19) nok12 (by decide) rfl (by decide +kernel) w_1415) (gk107 hG) (gm107_8 hG)) <|
  n_c (s_iload_n (pc := 90) (k := 1) (by decide +kernel)) <|
  n_c (s_aload_n (pc := 91) (k := 0) (by decide +kernel)) <|
  n_c (s_aload_n (pc := 92) (k := 0) (by decide +kernel)) <|
  n_c (s_gRc (s_getR (pc := 93) (ci := 12) (k := 8) (idx := 19) nok12 (by decide) rfl (by decide +kernel) w_1415) (gk107 hG) (gm107_8 hG)) <|
  n_c (s_iload_n (pc := 96) (k := 1) (by decide +kernel)) <|
  n_c (s_aldc (s_iaload (pc := 97) (by decide +kernel)) (gk111 hG) (gl111 hG)) <|
  n_c (s_callVc (s_callV (pc := 98) (csX12_keeps hG) (by decide) okX12_keeps nok12 w_2163 w_130 w_2161 (by decide +kernel)) (gk107 hG)) <|
  n_c (s_iastc (s_iastore (pc := 101) (by decide +kernel)) (gk111 hG) (gl111 hG)) <|
  n_c (s_aload_n (pc := 102) (k := 0) (by decide +kernel)) <|
  n_c (s_gRc (s_getR (pc := 103) (ci := 12) (k := 11) (idx := 28) nok12 (by decide) rfl (by decide +kernel) w_1418) (gk107 hG) (gm107_11 hG)) <|
  n_c (s_iload_n (pc := 106) (k := 1) (by decide +kernel)) <|
  n_c (s_aload_n (pc := 107) (k := 0) (by decide +kernel)) <|
  n_c (s_aload_n (pc := 108) (k := 0) (by decide +kernel)) <|
  n_c (s_gRc (s_getR (pc := 109) (ci := 12) (k := 11) (idx := 28) nok12 (by decide) rfl (by decide +kernel) w_1418) (gk107 hG) (gm107_11 hG)) <|
  n_c (s_iload_n (pc := 112) (k := 1) (by decide +kernel)) <|
  n_c (s_aldc (s_iaload (pc := 113) (by decide +kernel)) (gk114 hG) (gl114 hG)) <|
  n_c (s_callVc (s_callV (pc := 114) (csX12_keeps hG) (by decide) okX12_keeps nok12 w_2163 w_130 w_2161 (by decide +kernel)) (gk107 hG)) <|
  n_c (s_iastc (s_iastore (pc := 117) (by decide +kernel)) (gk114 hG) (gl114 hG)) <|
  n_c (s_aload_n (pc := 118) (k := 0) (by decide +kernel)) <|
  n_c (s_gRc (s_getR (pc := 119) (ci := 12) (k := 12) (idx := 31) nok12 (by decide) rfl (by decide +kernel) w_1419) (gk107 hG) (gm107_12 hG)) <|
  n_c (s_iload_n (pc := 122) (k := 1) (by decide +kernel)) <|
  n_c (s_aload_n (pc := 123) (k := 0) (by decide +kernel)) <|
  n_c (s_aload_n (pc := 124) (k := 0) (by decide +kernel)) <|
  n_c (s_gRc (s_getR (pc := 125) (ci := 12) (k := 12) (idx := 31) nok12 (by decide) rfl (by decide +kernel) w_1419) (gk107 hG) (gm107_12 hG)) <|
  n_c (s_iload_n (pc := 128) (k := 1) (by decide +kernel)) <|
  n_c (s_aldc (s_iaload (pc := 129) (by decide +kernel)) (gk115 hG) (gl115 hG)) <|
  n_c (s_callVc (s_callV (pc := 130) (csX12_keeps hG) (by decide) okX12_keeps nok12 w_2163 w_130 w_2161 (by decide +kernel)) (gk107 hG)) <|
  n_c (s_iastc (s_iastore (pc := 133) (by decide +kernel)) (gk115 hG) (gl115 hG)) <|
  n_c (s_aload_n (pc := 134) (k := 0) (by decide +kernel)) <|
  n_c (s_gRc (s_getR (pc := 135) (ci := 12) (k := 42) (idx := 77) nok12 (by decide) rfl (by decide +kernel) w_1449) (gk107 hG) (gm107_42 hG)) <|
  n_c (s_iload_n (pc := 138) (k := 1) (by decide +kernel)) <|
  n_c (s_aload_n (pc := 139) (k := 0) (by decide +kernel)) <|
  n_c (s_aload_n (pc := 140) (k := 0) (by decide +kernel)) <|
  n_c (s_gRc (s_getR (pc := 141) (ci := 12) (k := 42) (idx := 77) nok12 (by decide) rfl (by decide +kernel) w_1449) (gk107 hG) (gm107_42 hG)) <|
  n_c (s_iload_n (pc := 144) (k := 1) (by decide +kernel)) <|
  n_c (s_aldc (s_iaload (pc := 145) (by decide +kernel)) (gk129 hG) (gl129 hG)) <|
  n_c (s_callVc (s_callV (pc := 146) (csX12_keeps hG) (by decide) okX12_keeps nok12 w_2163 w_130 w_2161 (by decide +kernel)) (gk107 hG)) <|
  n_c (s_iastc (s_iastore (pc := 149) (by decide +kernel)) (gk129 hG) (gl129 hG)) <|
  n_c (s_aload_n (pc := 150) (k := 0) (by decide +kernel)) <|
  n_c (s_gRc (s_getR (pc := 151) (ci := 12) (k := 58) (idx := 113) nok12 (by decide) rfl (by decide +kernel) w_1465) (gk107 hG) (gm107_58 hG)) <|
  n_c (s_iload_n (pc := 154) (k := 1) (by decide +kernel)) <|
  n_c (s_aload_n (pc := 155) (k := 0) (by decide +kernel)) <|
  n_c (s_aload_n (pc := 156) (k := 0) (by decide +kernel)) <|
  n_c (s_gRc (s_getR (pc := 157) (ci := 12) (k := 58) (idx := 113) nok12 (by decide) rfl (by decide +kernel) w_1465) (gk107 hG) (gm107_58 hG)) <|
  n_c (s_iload_n (pc := 160) (k := 1) (by decide +kernel)) <|
  n_c (s_aldc (s_iaload (pc := 161) (by decide +kernel)) (gk141 hG) (gl141 hG)) <|
  n_c (s_callVc (s_callV (pc := 162) (csX12_keeps hG) (by decide) okX12_keeps nok12 w_2163 w_130 w_2161 (by decide +kernel)) (gk107 hG)) <|
  n_c (s_iastc (s_iastore (pc := 165) (by decide +kernel)) (gk141 hG) (gl141 hG)) <|
  n_c (s_iinc (pc := 166) (n := 1) (by decide +kernel) (by decide +kernel)) <|
  n_c (s_goto (pc := 169) (off := -89) (by decide +kernel) (by decide +kernel)) <|
  n_c (s_vret (pc := 172) rfl (by decide +kernel)) <|
  n_e
def fX12_keepsThings_80 (N : Nat) : Nat → Int32 → nM → Option (Unit × nM)
  | 0, _, _ => none
  | n + 1, x1, M =>
    if (12 : Int32) ≤ x1 then
      some ((), M)
    else
      n_chk (n_ib 12 x1) <|
      (fX12_keeps (M 111 x1.toNatClampNeg) M).bind fun p1 =>
      n_chk (n_ib 12 x1) <|
      let M2 : nM := n_up p1.2 111 x1.toNatClampNeg p1.1
      n_chk (n_ib 12 x1) <|
      (fX12_keeps (M2 114 x1.toNatClampNeg) M2).bind fun p3 =>
      n_chk (n_ib 12 x1) <|
      let M4 : nM := n_up p3.2 114 x1.toNatClampNeg p3.1
      n_chk (n_ib 12 x1) <|
      (fX12_keeps (M4 115 x1.toNatClampNeg) M4).bind fun p5 =>
      n_chk (n_ib 12 x1) <|
      let M6 : nM := n_up p5.2 115 x1.toNatClampNeg p5.1
      n_chk (n_ib 24 x1) <|
      (fX12_keeps (M6 129 x1.toNatClampNeg) M6).bind fun p7 =>
      n_chk (n_ib 24 x1) <|
      let M8 : nM := n_up p7.2 129 x1.toNatClampNeg p7.1
      n_chk (n_ib 12 x1) <|
      (fX12_keeps (M8 141 x1.toNatClampNeg) M8).bind fun p9 =>
      n_chk (n_ib 12 x1) <|
      let M10 : nM := n_up p9.2 141 x1.toNatClampNeg p9.1
      let v11 : Int32 := (x1 + (1 : Int32))
      fX12_keepsThings_80 N n v11 M10
set_option maxRecDepth 200000 in
theorem bX12_keepsThings_80 {l : Launch} {w : nW} (N : Nat) {G : nG} (hG : n_GOK G) : ∀ (n : Nat) (x1 : Int32) (M : nM) (r : Unit × nM), fX12_keepsThings_80 N n x1 M = some r → n_At l w 1 mX12_keepsThings 80 [(0, .ref 107), (1, .int x1)] [] (G, M) (dv_v r.1, (G, r.2)) := by
  intro n
  induction n with
  | zero => intro x1 M r h; cases (show (none : Option (Unit × nM)) = some r from h)
  | succ n ih =>
    intro x1 M r h
    exact n_seg (fin := n_fin dv_v G) (K := [(80, fun lv st M => n_lC 107 lv 0 (n_lI lv 1 (fun x1 => n_pE st (fX12_keepsThings_80 N n x1 M))))]) 59 (iX12_keepsThings N hG) (n_kc (fun lv st M r h => by
      obtain ⟨e0, h1⟩ := n_lC_x h
      obtain ⟨x1, e1, h2⟩ := n_lI_x h1
      obtain ⟨rfl, h3⟩ := n_pE_x h2
      exact n_sub (n_qc e0 (n_qc e1 n_qe)) (ih x1 M r h3)) n_ke) (by rfl) h
def fX12_keepsThings_2 (N : Nat) : Nat → Int32 → nM → Option (Unit × nM)
  | 0, _, _ => none
  | n + 1, x1, M =>
    if (16 : Int32) ≤ x1 then
      fX12_keepsThings_80 N N (0 : Int32) M
    else
      n_chk (n_ib 16 x1) <|
      (fX12_keeps (M 112 x1.toNatClampNeg) M).bind fun p1 =>
      n_chk (n_ib 16 x1) <|
      let M2 : nM := n_up p1.2 112 x1.toNatClampNeg p1.1
      n_chk (n_ib 16 x1) <|
      (fX12_keeps (M2 113 x1.toNatClampNeg) M2).bind fun p3 =>
      n_chk (n_ib 16 x1) <|
      let M4 : nM := n_up p3.2 113 x1.toNatClampNeg p3.1
      n_chk (n_ib 16 x1) <|
      (fX12_keeps (M4 133 x1.toNatClampNeg) M4).bind fun p5 =>
      n_chk (n_ib 16 x1) <|
      let M6 : nM := n_up p5.2 133 x1.toNatClampNeg p5.1
      n_chk (n_ib 16 x1) <|
      (fX12_keeps (M6 134 x1.toNatClampNeg) M6).bind fun p7 =>
      n_chk (n_ib 16 x1) <|
      let M8 : nM := n_up p7.2 134 x1.toNatClampNeg p7.1
      let v9 : Int32 := (x1 + (1 : Int32))
      fX12_keepsThings_2 N n v9 M8
set_option maxRecDepth 200000 in
theorem bX12_keepsThings_2 {l : Launch} {w : nW} (N : Nat) {G : nG} (hG : n_GOK G) : ∀ (n : Nat) (x1 : Int32) (M : nM) (r : Unit × nM), fX12_keepsThings_2 N n x1 M = some r → n_At l w 1 mX12_keepsThings 2 [(0, .ref 107), (1, .int x1)] [] (G, M) (dv_v r.1, (G, r.2)) := by
  intro n
  induction n with
  | zero => intro x1 M r h; cases (show (none : Option (Unit × nM)) = some r from h)
  | succ n ih =>
    intro x1 M r h
    exact n_seg (fin := n_fin dv_v G) (K := [(2, fun lv st M => n_lC 107 lv 0 (n_lI lv 1 (fun x1 => n_pE st (fX12_keepsThings_2 N n x1 M)))), (80, fun lv st M => n_lC 107 lv 0 (n_lI lv 1 (fun x1 => n_pE st (fX12_keepsThings_80 N N x1 M))))]) 50 (iX12_keepsThings N hG) (n_kc (fun lv st M r h => by
      obtain ⟨e0, h1⟩ := n_lC_x h
      obtain ⟨x1, e1, h2⟩ := n_lI_x h1
      obtain ⟨rfl, h3⟩ := n_pE_x h2
      exact n_sub (n_qc e0 (n_qc e1 n_qe)) (ih x1 M r h3)) (n_kc (fun lv st M r h => by
      obtain ⟨e0, h1⟩ := n_lC_x h
      obtain ⟨x1, e1, h2⟩ := n_lI_x h1
      obtain ⟨rfl, h3⟩ := n_pE_x h2
      exact n_sub (n_qc e0 (n_qc e1 n_qe)) (bX12_keepsThings_80 N hG N x1 M r h3)) n_ke)) (by rfl) h
def fX12_keepsThings (N : Nat) (M : nM) : Option (Unit × nM) :=
  fX12_keepsThings_2 N N (0 : Int32) M
set_option maxRecDepth 200000 in
theorem bX12_keepsThings_0 {l : Launch} {w : nW} (N : Nat) {G : nG} (hG : n_GOK G) (M : nM) (r : Unit × nM) (h : fX12_keepsThings N M = some r) : n_At l w 1 mX12_keepsThings 0 [(0, .ref 107)] [] (G, M) (dv_v r.1, (G, r.2)) :=
  n_seg (fin := n_fin dv_v G) (K := [(2, fun lv st M => n_lC 107 lv 0 (n_lI lv 1 (fun x1 => n_pE st (fX12_keepsThings_2 N N x1 M))))]) 5 (iX12_keepsThings N hG) (n_kc (fun lv st M r h => by
      obtain ⟨e0, h1⟩ := n_lC_x h
      obtain ⟨x1, e1, h2⟩ := n_lI_x h1
      obtain ⟨rfl, h3⟩ := n_pE_x h2
      exact n_sub (n_qc e0 (n_qc e1 n_qe)) (bX12_keepsThings_2 N hG N x1 M r h3)) n_ke) (by rfl) h
theorem eX12_keepsThings {l : Launch} {w : nW} (N : Nat) {G : nG} (hG : n_GOK G) (M : nM) (r : Unit × nM) (h : fX12_keepsThings N M = some r) : n_Met l w 1 mX12_keepsThings [.ref 107] (G, M) (dv_v r.1, (G, r.2)) :=
  n_entry (by decide +kernel) rfl (Nat.le_of_ble_eq_true rfl) (n_sub (lv := [(0, .ref 107)]) (n_qc rfl n_qe) (bX12_keepsThings_0 N hG M r h))
abbrev hX12_keepsThings (N : Nat) : nF := fun T as M k => n_pC 107 as (fun as => n_pE as ((fX12_keepsThings N M).bind fun p => k (dv_v p.1) p.2))
theorem csX12_keepsThings {l : Launch} {w : nW} (N : Nat) {G : nG} (hG : n_GOK G) : n_CS l w 1 mX12_keepsThings G (hX12_keepsThings N) := fun T as M k r h => by
  obtain ⟨t0, rfl, h1⟩ := n_pC_x h
  obtain ⟨rfl, hE⟩ := n_pE_x h1
  obtain ⟨p, hp, hk⟩ := Option.bind_eq_some_iff.mp hE
  exact ⟨_, _, eX12_keepsThings N hG M p hp, hk⟩
/-! ===== SleightHouseModel.keepsTold()V ===== -/
def mX12_keepsTold : nY := (RX12, yX12_keepsTold, cX12_keepsTold, 2, none)
theorem okX12_keepsTold : n_MOK mX12_keepsTold 0 := ⟨w_2176, w_151, ⟨by decide +kernel, by decide +kernel, by decide +kernel⟩, by decide⟩
abbrev aX12_keepsTold (N : Nat) : List (Nat × nO (Unit × nM)) := [(0, o_push (.int (0 : Int32)) 1), (1, o_istore 2 1 2), (2, o_iload 1 3), (3, o_push (.int (4 : Int32)) 4), (4, oc_ge 29 7), (7, o_aload 0 8), (8, o_gRc 107 135 11), (11, o_iload 1 12), (12, o_aload 0 13), (13, o_aload 0 14), (14, o_gRc 107 135 17), (17, o_iload 1 18), (18, o_aldc 135 4 19), (19, o_callVc 107 1 (hX12_keeps) 22), (22, o_iastc 135 4 23), (23, o_inc 2 1 (1 : Int32) 26), (26, o_goto 2), (29, o_push (.int (0 : Int32)) 30), (30, o_istore 2 1 31), (31, o_iload 1 32), (32, o_push (.int (8 : Int32)) 34), (34, oc_ge 75 37), (37, o_aload 0 38), (38, o_gRc 107 136 41), (41, o_iload 1 42), (42, o_aload 0 43), (43, o_aload 0 44), (44, o_gRc 107 136 47), (47, o_iload 1 48), (48, o_aldc 136 8 49), (49, o_callVc 107 1 (hX12_keeps) 52), (52, o_iastc 136 8 53), (53, o_aload 0 54), (54, o_gRc 107 137 57), (57, o_iload 1 58), (58, o_aload 0 59), (59, o_aload 0 60), (60, o_gRc 107 137 63), (63, o_iload 1 64), (64, o_aldc 137 8 65), (65, o_callVc 107 1 (hX12_keeps) 68), (68, o_iastc 137 8 69), (69, o_inc 2 1 (1 : Int32) 72), (72, o_goto 31), (75, o_push (.int (0 : Int32)) 76), (76, o_istore 2 1 77), (77, o_iload 1 78), (78, o_push (.int (10 : Int32)) 80), (80, oc_ge 153 83), (83, o_aload 0 84), (84, o_gRc 107 139 87), (87, o_iload 1 88), (88, o_aload 0 89), (89, o_aload 0 90), (90, o_gRc 107 139 93), (93, o_iload 1 94), (94, o_aldc 139 10 95), (95, o_callVc 107 1 (hX12_keeps) 98), (98, o_iastc 139 10 99), (99, o_aload 0 100), (100, o_gRc 107 144 103), (103, o_iload 1 104), (104, o_aload 0 105), (105, o_aload 0 106), (106, o_gRc 107 144 109), (109, o_iload 1 110), (110, o_aldc 144 10 111), (111, o_callVc 107 1 (hX12_keeps) 114), (114, o_iastc 144 10 115), (115, o_aload 0 116), (116, o_gRc 107 145 119), (119, o_iload 1 120), (120, o_aload 0 121), (121, o_aload 0 122), (122, o_gRc 107 145 125), (125, o_iload 1 126), (126, o_aldc 145 10 127), (127, o_callVc 107 1 (hX12_keeps) 130), (130, o_iastc 145 10 131), (131, o_aload 0 132), (132, o_gRc 107 146 135), (135, o_iload 1 136), (136, o_aload 0 137), (137, o_aload 0 138), (138, o_gRc 107 146 141), (141, o_iload 1 142), (142, o_aldc 146 10 143), (143, o_callVc 107 1 (hX12_keeps) 146), (146, o_iastc 146 10 147), (147, o_inc 2 1 (1 : Int32) 150), (150, o_goto 77), (153, o_push (.int (0 : Int32)) 154), (154, o_istore 2 1 155), (155, o_iload 1 156), (156, o_push (.int (36 : Int32)) 158), (158, oc_ge 183 161), (161, o_aload 0 162), (162, o_gRc 107 143 165), (165, o_iload 1 166), (166, o_aload 0 167), (167, o_aload 0 168), (168, o_gRc 107 143 171), (171, o_iload 1 172), (172, o_aldc 143 36 173), (173, o_callVc 107 1 (hX12_keeps) 176), (176, o_iastc 143 36 177), (177, o_inc 2 1 (1 : Int32) 180), (180, o_goto 155), (183, o_push (.int (0 : Int32)) 184), (184, o_istore 2 1 185), (185, o_iload 1 186), (186, o_push (.int (6 : Int32)) 188), (188, oc_ge 213 191), (191, o_aload 0 192), (192, o_gRc 107 148 195), (195, o_iload 1 196), (196, o_aload 0 197), (197, o_aload 0 198), (198, o_gRc 107 148 201), (201, o_iload 1 202), (202, o_aldc 148 6 203), (203, o_callVc 107 1 (hX12_keeps) 206), (206, o_iastc 148 6 207), (207, o_inc 2 1 (1 : Int32) 210), (210, o_goto 185), (213, o_push (.int (0 : Int32)) 214), (214, o_istore 2 1 215), (215, o_iload 1 216), (216, o_push (.int (5 : Int32)) 217), (217, oc_ge 242 220), (220, o_aload 0 221), (221, o_gRc 107 149 224), (224, o_iload 1 225), (225, o_aload 0 226), (226, o_aload 0 227), (227, o_gRc 107 149 230), (230, o_iload 1 231), (231, o_aldc 149 5 232), (232, o_callVc 107 1 (hX12_keeps) 235), (235, o_iastc 149 5 236), (236, o_inc 2 1 (1 : Int32) 239), (239, o_goto 215), (242, o_push (.int (0 : Int32)) 243), (243, o_istore 2 1 244), (244, o_iload 1 245), (245, o_push (.int (64 : Int32)) 247), (247, oc_ge 272 250), (250, o_aload 0 251), (251, o_gRc 107 127 254), (254, o_iload 1 255), (255, o_aload 0 256), (256, o_aload 0 257), (257, o_gRc 107 127 260), (260, o_iload 1 261), (261, o_aldc 127 128 262), (262, o_callVc 107 1 (hX12_keeps) 265), (265, o_iastc 127 128 266), (266, o_inc 2 1 (1 : Int32) 269), (269, o_goto 244), (272, o_push (.int (0 : Int32)) 273), (273, o_istore 2 1 274), (274, o_iload 1 275), (275, o_push (.int (64 : Int32)) 277), (277, oc_ge 302 280), (280, o_aload 0 281), (281, o_gRc 107 128 284), (284, o_iload 1 285), (285, o_aload 0 286), (286, o_aload 0 287), (287, o_gRc 107 128 290), (290, o_iload 1 291), (291, o_aldc 128 128 292), (292, o_callVc 107 1 (hX12_keeps) 295), (295, o_iastc 128 128 296), (296, o_inc 2 1 (1 : Int32) 299), (299, o_goto 274), (302, o_vret)]
set_option maxRecDepth 200000 in
theorem iX12_keepsTold {l : Launch} {w : nW} (N : Nat) {G : nG} (hG : n_GOK G) : n_AllS l w 1 mX12_keepsTold G (n_fin dv_v G) (aX12_keepsTold N) :=
  n_c (s_iconst (pc := 0) (n := 0) (by decide +kernel) (by decide +kernel)) <|
  n_c (s_istore_n (pc := 1) (k := 1) (by decide +kernel)) <|
  n_c (s_iload_n (pc := 2) (k := 1) (by decide +kernel)) <|
  n_c (s_iconst (pc := 3) (n := 4) (by decide +kernel) (by decide +kernel)) <|
  n_c (s_icmp_ge (pc := 4) (off := 25) (by decide +kernel) (by decide +kernel)) <|
  n_c (s_aload_n (pc := 7) (k := 0) (by decide +kernel)) <|
  n_c (s_gRc (s_getR (pc := 8) (ci := 12) (k := 50) (idx := 95) nok12 (by decide) rfl (by decide +kernel) w_1457) (gk107 hG) (gm107_50 hG)) <|
  n_c (s_iload_n (pc := 11) (k := 1) (by decide +kernel)) <|
  n_c (s_aload_n (pc := 12) (k := 0) (by decide +kernel)) <|
  n_c (s_aload_n (pc := 13) (k := 0) (by decide +kernel)) <|
  n_c (s_gRc (s_getR (pc := 14) (ci := 12) (k := 50) (idx := 95) nok12 (by decide) rfl (by decide +kernel) w_1457) (gk107 hG) (gm107_50 hG)) <|
  n_c (s_iload_n (pc := 17) (k := 1) (by decide +kernel)) <|
  n_c (s_aldc (s_iaload (pc := 18) (by decide +kernel)) (gk135 hG) (gl135 hG)) <|
  n_c (s_callVc (s_callV (pc := 19) (csX12_keeps hG) (by decide) okX12_keeps nok12 w_2163 w_130 w_2161 (by decide +kernel)) (gk107 hG)) <|
  n_c (s_iastc (s_iastore (pc := 22) (by decide +kernel)) (gk135 hG) (gl135 hG)) <|
  n_c (s_iinc (pc := 23) (n := 1) (by decide +kernel) (by decide +kernel)) <|
  n_c (s_goto (pc := 26) (off := -24) (by decide +kernel) (by decide +kernel)) <|
  n_c (s_iconst (pc := 29) (n := 0) (by decide +kernel) (by decide +kernel)) <|
  n_c (s_istore_n (pc := 30) (k := 1) (by decide +kernel)) <|
  n_c (s_iload_n (pc := 31) (k := 1) (by decide +kernel)) <|
  n_c (s_bipush (pc := 32) (n := 8) (by decide +kernel) (by decide +kernel)) <|
  n_c (s_icmp_ge (pc := 34) (off := 41) (by decide +kernel) (by decide +kernel)) <|
  n_c (s_aload_n (pc := 37) (k := 0) (by decide +kernel)) <|
  n_c (s_gRc (s_getR (pc := 38) (ci := 12) (k := 52) (idx := 98) nok12 (by decide) rfl (by decide +kernel) w_1459) (gk107 hG) (gm107_52 hG)) <|
  n_c (s_iload_n (pc := 41) (k := 1) (by decide +kernel)) <|
  n_c (s_aload_n (pc := 42) (k := 0) (by decide +kernel)) <|
  n_c (s_aload_n (pc := 43) (k := 0) (by decide +kernel)) <|
  n_c (s_gRc (s_getR (pc := 44) (ci := 12) (k := 52) (idx := 98) nok12 (by decide) rfl (by decide +kernel) w_1459) (gk107 hG) (gm107_52 hG)) <|
  n_c (s_iload_n (pc := 47) (k := 1) (by decide +kernel)) <|
  n_c (s_aldc (s_iaload (pc := 48) (by decide +kernel)) (gk136 hG) (gl136 hG)) <|
  n_c (s_callVc (s_callV (pc := 49) (csX12_keeps hG) (by decide) okX12_keeps nok12 w_2163 w_130 w_2161 (by decide +kernel)) (gk107 hG)) <|
  n_c (s_iastc (s_iastore (pc := 52) (by decide +kernel)) (gk136 hG) (gl136 hG)) <|
  n_c (s_aload_n (pc := 53) (k := 0) (by decide +kernel)) <|
  n_c (s_gRc (s_getR (pc := 54) (ci := 12) (k := 53) (idx := 101) nok12 (by decide) rfl (by decide +kernel) w_1460) (gk107 hG) (gm107_53 hG)) <|
  n_c (s_iload_n (pc := 57) (k := 1) (by decide +kernel)) <|
  n_c (s_aload_n (pc := 58) (k := 0) (by decide +kernel)) <|
  n_c (s_aload_n (pc := 59) (k := 0) (by decide +kernel)) <|
  n_c (s_gRc (s_getR (pc := 60) (ci := 12) (k := 53) (idx := 101) nok12 (by decide) rfl (by decide +kernel) w_1460) (gk107 hG) (gm107_53 hG)) <|
  n_c (s_iload_n (pc := 63) (k := 1) (by decide +kernel)) <|
  n_c (s_aldc (s_iaload (pc := 64) (by decide +kernel)) (gk137 hG) (gl137 hG)) <|
  n_c (s_callVc (s_callV (pc := 65) (csX12_keeps hG) (by decide) okX12_keeps nok12 w_2163 w_130 w_2161 (by decide +kernel)) (gk107 hG)) <|
  n_c (s_iastc (s_iastore (pc := 68) (by decide +kernel)) (gk137 hG) (gl137 hG)) <|
  n_c (s_iinc (pc := 69) (n := 1) (by decide +kernel) (by decide +kernel)) <|
  n_c (s_goto (pc := 72) (off := -41) (by decide +kernel) (by decide +kernel)) <|
  n_c (s_iconst (pc := 75) (n := 0) (by decide +kernel) (by decide +kernel)) <|
  n_c (s_istore_n (pc := 76) (k := 1) (by decide +kernel)) <|
  n_c (s_iload_n (pc := 77) (k := 1) (by decide +kernel)) <|
  n_c (s_bipush (pc := 78) (n := 10) (by decide +kernel) (by decide +kernel)) <|
  n_c (s_icmp_ge (pc := 80) (off := 73) (by decide +kernel) (by decide +kernel)) <|
  n_c (s_aload_n (pc := 83) (k := 0) (by decide +kernel)) <|
  n_c (s_gRc (s_getR (pc := 84) (ci := 12) (k := 56) (idx := 107) nok12 (by decide) rfl (by decide +kernel) w_1463) (gk107 hG) (gm107_56 hG)) <|
  n_c (s_iload_n (pc := 87) (k := 1) (by decide +kernel)) <|
  n_c (s_aload_n (pc := 88) (k := 0) (by decide +kernel)) <|
  n_c (s_aload_n (pc := 89) (k := 0) (by decide +kernel)) <|
  n_c (s_gRc (s_getR (pc := 90) (ci := 12) (k := 56) (idx := 107) nok12 (by decide) rfl (by decide +kernel) w_1463) (gk107 hG) (gm107_56 hG)) <|
  n_c (s_iload_n (pc := 93) (k := 1) (by decide +kernel)) <|
  n_c (s_aldc (s_iaload (pc := 94) (by decide +kernel)) (gk139 hG) (gl139 hG)) <|
  n_c (s_callVc (s_callV (pc := 95) (csX12_keeps hG) (by decide) okX12_keeps nok12 w_2163 w_130 w_2161 (by decide +kernel)) (gk107 hG)) <|
  n_c (s_iastc (s_iastore (pc := 98) (by decide +kernel)) (gk139 hG) (gl139 hG)) <|
  n_c (s_aload_n (pc := 99) (k := 0) (by decide +kernel)) <|
  n_c (s_gRc (s_getR (pc := 100) (ci := 12) (k := 66) (idx := 122) nok12 (by decide) rfl (by decide +kernel) w_1473) (gk107 hG) (gm107_66 hG)) <|
  n_c (s_iload_n (pc := 103) (k := 1) (by decide +kernel)) <|
  n_c (s_aload_n (pc := 104) (k := 0) (by decide +kernel)) <|
  n_c (s_aload_n (pc := 105) (k := 0) (by decide +kernel)) <|
  n_c (s_gRc (s_getR (pc := 106) (ci := 12) (k := 66) (idx := 122) nok12 (by decide) rfl (by decide +kernel) w_1473) (gk107 hG) (gm107_66 hG)) <|
  n_c (s_iload_n (pc := 109) (k := 1) (by decide +kernel)) <|
  n_c (s_aldc (s_iaload (pc := 110) (by decide +kernel)) (gk144 hG) (gl144 hG)) <|
  n_c (s_callVc (s_callV (pc := 111) (csX12_keeps hG) (by decide) okX12_keeps nok12 w_2163 w_130 w_2161 (by decide +kernel)) (gk107 hG)) <|
  n_c (s_iastc (s_iastore (pc := 114) (by decide +kernel)) (gk144 hG) (gl144 hG)) <|
  n_c (s_aload_n (pc := 115) (k := 0) (by decide +kernel)) <|
  n_c (s_gRc (s_getR (pc := 116) (ci := 12) (k := 67) (idx := 125) nok12 (by decide) rfl (by decide +kernel) w_1474) (gk107 hG) (gm107_67 hG)) <|
  n_c (s_iload_n (pc := 119) (k := 1) (by decide +kernel)) <|
  n_c (s_aload_n (pc := 120) (k := 0) (by decide +kernel)) <|
  n_c (s_aload_n (pc := 121) (k := 0) (by decide +kernel)) <|
  n_c (s_gRc (s_getR (pc := 122) (ci := 12) (k := 67) (idx := 125) nok12 (by decide) rfl (by decide +kernel) w_1474) (gk107 hG) (gm107_67 hG)) <|
  n_c (s_iload_n (pc := 125) (k := 1) (by decide +kernel)) <|
  n_c (s_aldc (s_iaload (pc := 126) (by decide +kernel)) (gk145 hG) (gl145 hG)) <|
  n_c (s_callVc (s_callV (pc := 127) (csX12_keeps hG) (by decide) okX12_keeps nok12 w_2163 w_130 w_2161 (by decide +kernel)) (gk107 hG)) <|
  n_c (s_iastc (s_iastore (pc := 130) (by decide +kernel)) (gk145 hG) (gl145 hG)) <|
  n_c (s_aload_n (pc := 131) (k := 0) (by decide +kernel)) <|
  n_c (s_gRc (s_getR (pc := 132) (ci := 12) (k := 68) (idx := 128) nok12 (by decide) rfl (by decide +kernel) w_1475) (gk107 hG) (gm107_68 hG)) <|
  n_c (s_iload_n (pc := 135) (k := 1) (by decide +kernel)) <|
  n_c (s_aload_n (pc := 136) (k := 0) (by decide +kernel)) <|
  n_c (s_aload_n (pc := 137) (k := 0) (by decide +kernel)) <|
  n_c (s_gRc (s_getR (pc := 138) (ci := 12) (k := 68) (idx := 128) nok12 (by decide) rfl (by decide +kernel) w_1475) (gk107 hG) (gm107_68 hG)) <|
  n_c (s_iload_n (pc := 141) (k := 1) (by decide +kernel)) <|
  n_c (s_aldc (s_iaload (pc := 142) (by decide +kernel)) (gk146 hG) (gl146 hG)) <|
  n_c (s_callVc (s_callV (pc := 143) (csX12_keeps hG) (by decide) okX12_keeps nok12 w_2163 w_130 w_2161 (by decide +kernel)) (gk107 hG)) <|
  n_c (s_iastc (s_iastore (pc := 146) (by decide +kernel)) (gk146 hG) (gl146 hG)) <|
  n_c (s_iinc (pc := 147) (n := 1) (by decide +kernel) (by decide +kernel)) <|
  n_c (s_goto (pc := 150) (off := -73) (by decide +kernel) (by decide +kernel)) <|
  n_c (s_iconst (pc := 153) (n := 0) (by decide +kernel) (by decide +kernel)) <|
  n_c (s_istore_n (pc := 154) (k := 1) (by decide +kernel)) <|
  n_c (s_iload_n (pc := 155) (k := 1) (by decide +kernel)) <|
  n_c (s_bipush (pc := 156) (n := 36) (by decide +kernel) (by decide +kernel)) <|
  n_c (s_icmp_ge (pc := 158) (off := 25) (by decide +kernel) (by decide +kernel)) <|
  n_c (s_aload_n (pc := 161) (k := 0) (by decide +kernel)) <|
  n_c (s_gRc (s_getR (pc := 162) (ci := 12) (k := 63) (idx := 119) nok12 (by decide) rfl (by decide +kernel) w_1470) (gk107 hG) (gm107_63 hG)) <|
  n_c (s_iload_n (pc := 165) (k := 1) (by decide +kernel)) <|
  n_c (s_aload_n (pc := 166) (k := 0) (by decide +kernel)) <|
  n_c (s_aload_n (pc := 167) (k := 0) (by decide +kernel)) <|
  n_c (s_gRc (s_getR (pc := 168) (ci := 12) (k := 63) (idx := 119) nok12 (by decide) rfl (by decide +kernel) w_1470) (gk107 hG) (gm107_63 hG)) <|
  n_c (s_iload_n (pc := 171) (k := 1) (by decide +kernel)) <|
  n_c (s_aldc (s_iaload (pc := 172) (by decide +kernel)) (gk143 hG) (gl143 hG)) <|
  n_c (s_callVc (s_callV (pc := 173) (csX12_keeps hG) (by decide) okX12_keeps nok12 w_2163 w_130 w_2161 (by decide +kernel)) (gk107 hG)) <|
  n_c (s_iastc (s_iastore (pc := 176) (by decide +kernel)) (gk143 hG) (gl143 hG)) <|
  n_c (s_iinc (pc := 177) (n := 1) (by decide +kernel) (by decide +kernel)) <|
  n_c (s_goto (pc := 180) (off := -25) (by decide +kernel) (by decide +kernel)) <|
  n_c (s_iconst (pc := 183) (n := 0) (by decide +kernel) (by decide +kernel)) <|
  n_c (s_istore_n (pc := 184) (k := 1) (by decide +kernel)) <|
  n_c (s_iload_n (pc := 185) (k := 1) (by decide +kernel)) <|
  n_c (s_bipush (pc := 186) (n := 6) (by decide +kernel) (by decide +kernel)) <|
  n_c (s_icmp_ge (pc := 188) (off := 25) (by decide +kernel) (by decide +kernel)) <|
  n_c (s_aload_n (pc := 191) (k := 0) (by decide +kernel)) <|
  n_c (s_gRc (s_getR (pc := 192) (ci := 12) (k := 71) (idx := 134) nok12 (by decide) rfl (by decide +kernel) w_1478) (gk107 hG) (gm107_71 hG)) <|
  n_c (s_iload_n (pc := 195) (k := 1) (by decide +kernel)) <|
  n_c (s_aload_n (pc := 196) (k := 0) (by decide +kernel)) <|
  n_c (s_aload_n (pc := 197) (k := 0) (by decide +kernel)) <|
  n_c (s_gRc (s_getR (pc := 198) (ci := 12) (k := 71) (idx := 134) nok12 (by decide) rfl (by decide +kernel) w_1478) (gk107 hG) (gm107_71 hG)) <|
  n_c (s_iload_n (pc := 201) (k := 1) (by decide +kernel)) <|
  n_c (s_aldc (s_iaload (pc := 202) (by decide +kernel)) (gk148 hG) (gl148 hG)) <|
  n_c (s_callVc (s_callV (pc := 203) (csX12_keeps hG) (by decide) okX12_keeps nok12 w_2163 w_130 w_2161 (by decide +kernel)) (gk107 hG)) <|
  n_c (s_iastc (s_iastore (pc := 206) (by decide +kernel)) (gk148 hG) (gl148 hG)) <|
  n_c (s_iinc (pc := 207) (n := 1) (by decide +kernel) (by decide +kernel)) <|
  n_c (s_goto (pc := 210) (off := -25) (by decide +kernel) (by decide +kernel)) <|
  n_c (s_iconst (pc := 213) (n := 0) (by decide +kernel) (by decide +kernel)) <|
  n_c (s_istore_n (pc := 214) (k := 1) (by decide +kernel)) <|
  n_c (s_iload_n (pc := 215) (k := 1) (by decide +kernel)) <|
  n_c (s_iconst (pc := 216) (n := 5) (by decide +kernel) (by decide +kernel)) <|
  n_c (s_icmp_ge (pc := 217) (off := 25) (by decide +kernel) (by decide +kernel)) <|
  n_c (s_aload_n (pc := 220) (k := 0) (by decide +kernel)) <|
  n_c (s_gRc (s_getR (pc := 221) (ci := 12) (k := 73) (idx := 137) nok12 (by decide) rfl (by decide +kernel) w_1480) (gk107 hG) (gm107_73 hG)) <|
  n_c (s_iload_n (pc := 224) (k := 1) (by decide +kernel)) <|
  n_c (s_aload_n (pc := 225) (k := 0) (by decide +kernel)) <|
  n_c (s_aload_n (pc := 226) (k := 0) (by decide +kernel)) <|
  n_c (s_gRc (s_getR (pc := 227) (ci := 12) (k := 73) (idx := 137) nok12 (by decide) rfl (by decide +kernel) w_1480) (gk107 hG) (gm107_73 hG)) <|
  n_c (s_iload_n (pc := 230) (k := 1) (by decide +kernel)) <|
  n_c (s_aldc (s_iaload (pc := 231) (by decide +kernel)) (gk149 hG) (gl149 hG)) <|
  n_c (s_callVc (s_callV (pc := 232) (csX12_keeps hG) (by decide) okX12_keeps nok12 w_2163 w_130 w_2161 (by decide +kernel)) (gk107 hG)) <|
  n_c (s_iastc (s_iastore (pc := 235) (by decide +kernel)) (gk149 hG) (gl149 hG)) <|
  n_c (s_iinc (pc := 236) (n := 1) (by decide +kernel) (by decide +kernel)) <|
  n_c (s_goto (pc := 239) (off := -24) (by decide +kernel) (by decide +kernel)) <|
  n_c (s_iconst (pc := 242) (n := 0) (by decide +kernel) (by decide +kernel)) <|
  n_c (s_istore_n (pc := 243) (k := 1) (by decide +kernel)) <|
  n_c (s_iload_n (pc := 244) (k := 1) (by decide +kernel)) <|
  n_c (s_bipush (pc := 245) (n := 64) (by decide +kernel) (by decide +kernel)) <|
  n_c (s_icmp_ge (pc := 247) (off := 25) (by decide +kernel) (by decide +kernel)) <|
  n_c (s_aload_n (pc := 250) (k := 0) (by decide +kernel)) <|
  n_c (s_gRc (s_getR (pc := 251) (ci := 12) (k := 38) (idx := 71) nok12 (by decide) rfl (by decide +kernel) w_1445) (gk107 hG) (gm107_38 hG)) <|
  n_c (s_iload_n (pc := 254) (k := 1) (by decide +kernel)) <|
  n_c (s_aload_n (pc := 255) (k := 0) (by decide +kernel)) <|
  n_c (s_aload_n (pc := 256) (k := 0) (by decide +kernel)) <|
  n_c (s_gRc (s_getR (pc := 257) (ci := 12) (k := 38) (idx := 71) nok12 (by decide) rfl (by decide +kernel) w_1445) (gk107 hG) (gm107_38 hG)) <|
  n_c (s_iload_n (pc := 260) (k := 1) (by decide +kernel)) <|
  n_c (s_aldc (s_iaload (pc := 261) (by decide +kernel)) (gk127 hG) (gl127 hG)) <|
  n_c (s_callVc (s_callV (pc := 262) (csX12_keeps hG) (by decide) okX12_keeps nok12 w_2163 w_130 w_2161 (by decide +kernel)) (gk107 hG)) <|
  n_c (s_iastc (s_iastore (pc := 265) (by decide +kernel)) (gk127 hG) (gl127 hG)) <|
  n_c (s_iinc (pc := 266) (n := 1) (by decide +kernel) (by decide +kernel)) <|
  n_c (s_goto (pc := 269) (off := -25) (by decide +kernel) (by decide +kernel)) <|
  n_c (s_iconst (pc := 272) (n := 0) (by decide +kernel) (by decide +kernel)) <|
  n_c (s_istore_n (pc := 273) (k := 1) (by decide +kernel)) <|
  n_c (s_iload_n (pc := 274) (k := 1) (by decide +kernel)) <|
  n_c (s_bipush (pc := 275) (n := 64) (by decide +kernel) (by decide +kernel)) <|
  n_c (s_icmp_ge (pc := 277) (off := 25) (by decide +kernel) (by decide +kernel)) <|
  n_c (s_aload_n (pc := 280) (k := 0) (by decide +kernel)) <|
  n_c (s_gRc (s_getR (pc := 281) (ci := 12) (k := 40) (idx := 74) nok12 (by decide) rfl (by decide +kernel) w_1447) (gk107 hG) (gm107_40 hG)) <|
  n_c (s_iload_n (pc := 284) (k := 1) (by decide +kernel)) <|
  n_c (s_aload_n (pc := 285) (k := 0) (by decide +kernel)) <|
  n_c (s_aload_n (pc := 286) (k := 0) (by decide +kernel)) <|
  n_c (s_gRc (s_getR (pc := 287) (ci := 12) (k := 40) (idx := 74) nok12 (by decide) rfl (by decide +kernel) w_1447) (gk107 hG) (gm107_40 hG)) <|
  n_c (s_iload_n (pc := 290) (k := 1) (by decide +kernel)) <|
  n_c (s_aldc (s_iaload (pc := 291) (by decide +kernel)) (gk128 hG) (gl128 hG)) <|
  n_c (s_callVc (s_callV (pc := 292) (csX12_keeps hG) (by decide) okX12_keeps nok12 w_2163 w_130 w_2161 (by decide +kernel)) (gk107 hG)) <|
  n_c (s_iastc (s_iastore (pc := 295) (by decide +kernel)) (gk128 hG) (gl128 hG)) <|
  n_c (s_iinc (pc := 296) (n := 1) (by decide +kernel) (by decide +kernel)) <|
  n_c (s_goto (pc := 299) (off := -25) (by decide +kernel) (by decide +kernel)) <|
  n_c (s_vret (pc := 302) rfl (by decide +kernel)) <|
  n_e
def fX12_keepsTold_274 (N : Nat) : Nat → Int32 → nM → Option (Unit × nM)
  | 0, _, _ => none
  | n + 1, x1, M =>
    if (64 : Int32) ≤ x1 then
      some ((), M)
    else
      n_chk (n_ib 128 x1) <|
      (fX12_keeps (M 128 x1.toNatClampNeg) M).bind fun p1 =>
      n_chk (n_ib 128 x1) <|
      let M2 : nM := n_up p1.2 128 x1.toNatClampNeg p1.1
      let v3 : Int32 := (x1 + (1 : Int32))
      fX12_keepsTold_274 N n v3 M2
set_option maxRecDepth 200000 in
theorem bX12_keepsTold_274 {l : Launch} {w : nW} (N : Nat) {G : nG} (hG : n_GOK G) : ∀ (n : Nat) (x1 : Int32) (M : nM) (r : Unit × nM), fX12_keepsTold_274 N n x1 M = some r → n_At l w 1 mX12_keepsTold 274 [(0, .ref 107), (1, .int x1)] [] (G, M) (dv_v r.1, (G, r.2)) := by
  intro n
  induction n with
  | zero => intro x1 M r h; cases (show (none : Option (Unit × nM)) = some r from h)
  | succ n ih =>
    intro x1 M r h
    exact n_seg (fin := n_fin dv_v G) (K := [(274, fun lv st M => n_lC 107 lv 0 (n_lI lv 1 (fun x1 => n_pE st (fX12_keepsTold_274 N n x1 M))))]) 19 (iX12_keepsTold N hG) (n_kc (fun lv st M r h => by
      obtain ⟨e0, h1⟩ := n_lC_x h
      obtain ⟨x1, e1, h2⟩ := n_lI_x h1
      obtain ⟨rfl, h3⟩ := n_pE_x h2
      exact n_sub (n_qc e0 (n_qc e1 n_qe)) (ih x1 M r h3)) n_ke) (by rfl) h
def fX12_keepsTold_244 (N : Nat) : Nat → Int32 → nM → Option (Unit × nM)
  | 0, _, _ => none
  | n + 1, x1, M =>
    if (64 : Int32) ≤ x1 then
      fX12_keepsTold_274 N N (0 : Int32) M
    else
      n_chk (n_ib 128 x1) <|
      (fX12_keeps (M 127 x1.toNatClampNeg) M).bind fun p1 =>
      n_chk (n_ib 128 x1) <|
      let M2 : nM := n_up p1.2 127 x1.toNatClampNeg p1.1
      let v3 : Int32 := (x1 + (1 : Int32))
      fX12_keepsTold_244 N n v3 M2
set_option maxRecDepth 200000 in
theorem bX12_keepsTold_244 {l : Launch} {w : nW} (N : Nat) {G : nG} (hG : n_GOK G) : ∀ (n : Nat) (x1 : Int32) (M : nM) (r : Unit × nM), fX12_keepsTold_244 N n x1 M = some r → n_At l w 1 mX12_keepsTold 244 [(0, .ref 107), (1, .int x1)] [] (G, M) (dv_v r.1, (G, r.2)) := by
  intro n
  induction n with
  | zero => intro x1 M r h; cases (show (none : Option (Unit × nM)) = some r from h)
  | succ n ih =>
    intro x1 M r h
    exact n_seg (fin := n_fin dv_v G) (K := [(244, fun lv st M => n_lC 107 lv 0 (n_lI lv 1 (fun x1 => n_pE st (fX12_keepsTold_244 N n x1 M)))), (274, fun lv st M => n_lC 107 lv 0 (n_lI lv 1 (fun x1 => n_pE st (fX12_keepsTold_274 N N x1 M))))]) 20 (iX12_keepsTold N hG) (n_kc (fun lv st M r h => by
      obtain ⟨e0, h1⟩ := n_lC_x h
      obtain ⟨x1, e1, h2⟩ := n_lI_x h1
      obtain ⟨rfl, h3⟩ := n_pE_x h2
      exact n_sub (n_qc e0 (n_qc e1 n_qe)) (ih x1 M r h3)) (n_kc (fun lv st M r h => by
      obtain ⟨e0, h1⟩ := n_lC_x h
      obtain ⟨x1, e1, h2⟩ := n_lI_x h1
      obtain ⟨rfl, h3⟩ := n_pE_x h2
      exact n_sub (n_qc e0 (n_qc e1 n_qe)) (bX12_keepsTold_274 N hG N x1 M r h3)) n_ke)) (by rfl) h
def fX12_keepsTold_215 (N : Nat) : Nat → Int32 → nM → Option (Unit × nM)
  | 0, _, _ => none
  | n + 1, x1, M =>
    if (5 : Int32) ≤ x1 then
      fX12_keepsTold_244 N N (0 : Int32) M
    else
      n_chk (n_ib 5 x1) <|
      (fX12_keeps (M 149 x1.toNatClampNeg) M).bind fun p1 =>
      n_chk (n_ib 5 x1) <|
      let M2 : nM := n_up p1.2 149 x1.toNatClampNeg p1.1
      let v3 : Int32 := (x1 + (1 : Int32))
      fX12_keepsTold_215 N n v3 M2
set_option maxRecDepth 200000 in
theorem bX12_keepsTold_215 {l : Launch} {w : nW} (N : Nat) {G : nG} (hG : n_GOK G) : ∀ (n : Nat) (x1 : Int32) (M : nM) (r : Unit × nM), fX12_keepsTold_215 N n x1 M = some r → n_At l w 1 mX12_keepsTold 215 [(0, .ref 107), (1, .int x1)] [] (G, M) (dv_v r.1, (G, r.2)) := by
  intro n
  induction n with
  | zero => intro x1 M r h; cases (show (none : Option (Unit × nM)) = some r from h)
  | succ n ih =>
    intro x1 M r h
    exact n_seg (fin := n_fin dv_v G) (K := [(215, fun lv st M => n_lC 107 lv 0 (n_lI lv 1 (fun x1 => n_pE st (fX12_keepsTold_215 N n x1 M)))), (244, fun lv st M => n_lC 107 lv 0 (n_lI lv 1 (fun x1 => n_pE st (fX12_keepsTold_244 N N x1 M))))]) 20 (iX12_keepsTold N hG) (n_kc (fun lv st M r h => by
      obtain ⟨e0, h1⟩ := n_lC_x h
      obtain ⟨x1, e1, h2⟩ := n_lI_x h1
      obtain ⟨rfl, h3⟩ := n_pE_x h2
      exact n_sub (n_qc e0 (n_qc e1 n_qe)) (ih x1 M r h3)) (n_kc (fun lv st M r h => by
      obtain ⟨e0, h1⟩ := n_lC_x h
      obtain ⟨x1, e1, h2⟩ := n_lI_x h1
      obtain ⟨rfl, h3⟩ := n_pE_x h2
      exact n_sub (n_qc e0 (n_qc e1 n_qe)) (bX12_keepsTold_244 N hG N x1 M r h3)) n_ke)) (by rfl) h
def fX12_keepsTold_185 (N : Nat) : Nat → Int32 → nM → Option (Unit × nM)
  | 0, _, _ => none
  | n + 1, x1, M =>
    if (6 : Int32) ≤ x1 then
      fX12_keepsTold_215 N N (0 : Int32) M
    else
      n_chk (n_ib 6 x1) <|
      (fX12_keeps (M 148 x1.toNatClampNeg) M).bind fun p1 =>
      n_chk (n_ib 6 x1) <|
      let M2 : nM := n_up p1.2 148 x1.toNatClampNeg p1.1
      let v3 : Int32 := (x1 + (1 : Int32))
      fX12_keepsTold_185 N n v3 M2
set_option maxRecDepth 200000 in
theorem bX12_keepsTold_185 {l : Launch} {w : nW} (N : Nat) {G : nG} (hG : n_GOK G) : ∀ (n : Nat) (x1 : Int32) (M : nM) (r : Unit × nM), fX12_keepsTold_185 N n x1 M = some r → n_At l w 1 mX12_keepsTold 185 [(0, .ref 107), (1, .int x1)] [] (G, M) (dv_v r.1, (G, r.2)) := by
  intro n
  induction n with
  | zero => intro x1 M r h; cases (show (none : Option (Unit × nM)) = some r from h)
  | succ n ih =>
    intro x1 M r h
    exact n_seg (fin := n_fin dv_v G) (K := [(185, fun lv st M => n_lC 107 lv 0 (n_lI lv 1 (fun x1 => n_pE st (fX12_keepsTold_185 N n x1 M)))), (215, fun lv st M => n_lC 107 lv 0 (n_lI lv 1 (fun x1 => n_pE st (fX12_keepsTold_215 N N x1 M))))]) 20 (iX12_keepsTold N hG) (n_kc (fun lv st M r h => by
      obtain ⟨e0, h1⟩ := n_lC_x h
      obtain ⟨x1, e1, h2⟩ := n_lI_x h1
      obtain ⟨rfl, h3⟩ := n_pE_x h2
      exact n_sub (n_qc e0 (n_qc e1 n_qe)) (ih x1 M r h3)) (n_kc (fun lv st M r h => by
      obtain ⟨e0, h1⟩ := n_lC_x h
      obtain ⟨x1, e1, h2⟩ := n_lI_x h1
      obtain ⟨rfl, h3⟩ := n_pE_x h2
      exact n_sub (n_qc e0 (n_qc e1 n_qe)) (bX12_keepsTold_215 N hG N x1 M r h3)) n_ke)) (by rfl) h
def fX12_keepsTold_155 (N : Nat) : Nat → Int32 → nM → Option (Unit × nM)
  | 0, _, _ => none
  | n + 1, x1, M =>
    if (36 : Int32) ≤ x1 then
      fX12_keepsTold_185 N N (0 : Int32) M
    else
      n_chk (n_ib 36 x1) <|
      (fX12_keeps (M 143 x1.toNatClampNeg) M).bind fun p1 =>
      n_chk (n_ib 36 x1) <|
      let M2 : nM := n_up p1.2 143 x1.toNatClampNeg p1.1
      let v3 : Int32 := (x1 + (1 : Int32))
      fX12_keepsTold_155 N n v3 M2
set_option maxRecDepth 200000 in
theorem bX12_keepsTold_155 {l : Launch} {w : nW} (N : Nat) {G : nG} (hG : n_GOK G) : ∀ (n : Nat) (x1 : Int32) (M : nM) (r : Unit × nM), fX12_keepsTold_155 N n x1 M = some r → n_At l w 1 mX12_keepsTold 155 [(0, .ref 107), (1, .int x1)] [] (G, M) (dv_v r.1, (G, r.2)) := by
  intro n
  induction n with
  | zero => intro x1 M r h; cases (show (none : Option (Unit × nM)) = some r from h)
  | succ n ih =>
    intro x1 M r h
    exact n_seg (fin := n_fin dv_v G) (K := [(155, fun lv st M => n_lC 107 lv 0 (n_lI lv 1 (fun x1 => n_pE st (fX12_keepsTold_155 N n x1 M)))), (185, fun lv st M => n_lC 107 lv 0 (n_lI lv 1 (fun x1 => n_pE st (fX12_keepsTold_185 N N x1 M))))]) 20 (iX12_keepsTold N hG) (n_kc (fun lv st M r h => by
      obtain ⟨e0, h1⟩ := n_lC_x h
      obtain ⟨x1, e1, h2⟩ := n_lI_x h1
      obtain ⟨rfl, h3⟩ := n_pE_x h2
      exact n_sub (n_qc e0 (n_qc e1 n_qe)) (ih x1 M r h3)) (n_kc (fun lv st M r h => by
      obtain ⟨e0, h1⟩ := n_lC_x h
      obtain ⟨x1, e1, h2⟩ := n_lI_x h1
      obtain ⟨rfl, h3⟩ := n_pE_x h2
      exact n_sub (n_qc e0 (n_qc e1 n_qe)) (bX12_keepsTold_185 N hG N x1 M r h3)) n_ke)) (by rfl) h
def fX12_keepsTold_77 (N : Nat) : Nat → Int32 → nM → Option (Unit × nM)
  | 0, _, _ => none
  | n + 1, x1, M =>
    if (10 : Int32) ≤ x1 then
      fX12_keepsTold_155 N N (0 : Int32) M
    else
      n_chk (n_ib 10 x1) <|
      (fX12_keeps (M 139 x1.toNatClampNeg) M).bind fun p1 =>
      n_chk (n_ib 10 x1) <|
      let M2 : nM := n_up p1.2 139 x1.toNatClampNeg p1.1
      n_chk (n_ib 10 x1) <|
      (fX12_keeps (M2 144 x1.toNatClampNeg) M2).bind fun p3 =>
      n_chk (n_ib 10 x1) <|
      let M4 : nM := n_up p3.2 144 x1.toNatClampNeg p3.1
      n_chk (n_ib 10 x1) <|
      (fX12_keeps (M4 145 x1.toNatClampNeg) M4).bind fun p5 =>
      n_chk (n_ib 10 x1) <|
      let M6 : nM := n_up p5.2 145 x1.toNatClampNeg p5.1
      n_chk (n_ib 10 x1) <|
      (fX12_keeps (M6 146 x1.toNatClampNeg) M6).bind fun p7 =>
      n_chk (n_ib 10 x1) <|
      let M8 : nM := n_up p7.2 146 x1.toNatClampNeg p7.1
      let v9 : Int32 := (x1 + (1 : Int32))
      fX12_keepsTold_77 N n v9 M8
set_option maxRecDepth 200000 in
theorem bX12_keepsTold_77 {l : Launch} {w : nW} (N : Nat) {G : nG} (hG : n_GOK G) : ∀ (n : Nat) (x1 : Int32) (M : nM) (r : Unit × nM), fX12_keepsTold_77 N n x1 M = some r → n_At l w 1 mX12_keepsTold 77 [(0, .ref 107), (1, .int x1)] [] (G, M) (dv_v r.1, (G, r.2)) := by
  intro n
  induction n with
  | zero => intro x1 M r h; cases (show (none : Option (Unit × nM)) = some r from h)
  | succ n ih =>
    intro x1 M r h
    exact n_seg (fin := n_fin dv_v G) (K := [(77, fun lv st M => n_lC 107 lv 0 (n_lI lv 1 (fun x1 => n_pE st (fX12_keepsTold_77 N n x1 M)))), (155, fun lv st M => n_lC 107 lv 0 (n_lI lv 1 (fun x1 => n_pE st (fX12_keepsTold_155 N N x1 M))))]) 50 (iX12_keepsTold N hG) (n_kc (fun lv st M r h => by
      obtain ⟨e0, h1⟩ := n_lC_x h
      obtain ⟨x1, e1, h2⟩ := n_lI_x h1
      obtain ⟨rfl, h3⟩ := n_pE_x h2
      exact n_sub (n_qc e0 (n_qc e1 n_qe)) (ih x1 M r h3)) (n_kc (fun lv st M r h => by
      obtain ⟨e0, h1⟩ := n_lC_x h
      obtain ⟨x1, e1, h2⟩ := n_lI_x h1
      obtain ⟨rfl, h3⟩ := n_pE_x h2
      exact n_sub (n_qc e0 (n_qc e1 n_qe)) (bX12_keepsTold_155 N hG N x1 M r h3)) n_ke)) (by rfl) h
def fX12_keepsTold_31 (N : Nat) : Nat → Int32 → nM → Option (Unit × nM)
  | 0, _, _ => none
  | n + 1, x1, M =>
    if (8 : Int32) ≤ x1 then
      fX12_keepsTold_77 N N (0 : Int32) M
    else
      n_chk (n_ib 8 x1) <|
      (fX12_keeps (M 136 x1.toNatClampNeg) M).bind fun p1 =>
      n_chk (n_ib 8 x1) <|
      let M2 : nM := n_up p1.2 136 x1.toNatClampNeg p1.1
      n_chk (n_ib 8 x1) <|
      (fX12_keeps (M2 137 x1.toNatClampNeg) M2).bind fun p3 =>
      n_chk (n_ib 8 x1) <|
      let M4 : nM := n_up p3.2 137 x1.toNatClampNeg p3.1
      let v5 : Int32 := (x1 + (1 : Int32))
      fX12_keepsTold_31 N n v5 M4
set_option maxRecDepth 200000 in
theorem bX12_keepsTold_31 {l : Launch} {w : nW} (N : Nat) {G : nG} (hG : n_GOK G) : ∀ (n : Nat) (x1 : Int32) (M : nM) (r : Unit × nM), fX12_keepsTold_31 N n x1 M = some r → n_At l w 1 mX12_keepsTold 31 [(0, .ref 107), (1, .int x1)] [] (G, M) (dv_v r.1, (G, r.2)) := by
  intro n
  induction n with
  | zero => intro x1 M r h; cases (show (none : Option (Unit × nM)) = some r from h)
  | succ n ih =>
    intro x1 M r h
    exact n_seg (fin := n_fin dv_v G) (K := [(31, fun lv st M => n_lC 107 lv 0 (n_lI lv 1 (fun x1 => n_pE st (fX12_keepsTold_31 N n x1 M)))), (77, fun lv st M => n_lC 107 lv 0 (n_lI lv 1 (fun x1 => n_pE st (fX12_keepsTold_77 N N x1 M))))]) 30 (iX12_keepsTold N hG) (n_kc (fun lv st M r h => by
      obtain ⟨e0, h1⟩ := n_lC_x h
      obtain ⟨x1, e1, h2⟩ := n_lI_x h1
      obtain ⟨rfl, h3⟩ := n_pE_x h2
      exact n_sub (n_qc e0 (n_qc e1 n_qe)) (ih x1 M r h3)) (n_kc (fun lv st M r h => by
      obtain ⟨e0, h1⟩ := n_lC_x h
      obtain ⟨x1, e1, h2⟩ := n_lI_x h1
      obtain ⟨rfl, h3⟩ := n_pE_x h2
      exact n_sub (n_qc e0 (n_qc e1 n_qe)) (bX12_keepsTold_77 N hG N x1 M r h3)) n_ke)) (by rfl) h
def fX12_keepsTold_2 (N : Nat) : Nat → Int32 → nM → Option (Unit × nM)
  | 0, _, _ => none
  | n + 1, x1, M =>
    if (4 : Int32) ≤ x1 then
      fX12_keepsTold_31 N N (0 : Int32) M
    else
      n_chk (n_ib 4 x1) <|
      (fX12_keeps (M 135 x1.toNatClampNeg) M).bind fun p1 =>
      n_chk (n_ib 4 x1) <|
      let M2 : nM := n_up p1.2 135 x1.toNatClampNeg p1.1
      let v3 : Int32 := (x1 + (1 : Int32))
      fX12_keepsTold_2 N n v3 M2
set_option maxRecDepth 200000 in
theorem bX12_keepsTold_2 {l : Launch} {w : nW} (N : Nat) {G : nG} (hG : n_GOK G) : ∀ (n : Nat) (x1 : Int32) (M : nM) (r : Unit × nM), fX12_keepsTold_2 N n x1 M = some r → n_At l w 1 mX12_keepsTold 2 [(0, .ref 107), (1, .int x1)] [] (G, M) (dv_v r.1, (G, r.2)) := by
  intro n
  induction n with
  | zero => intro x1 M r h; cases (show (none : Option (Unit × nM)) = some r from h)
  | succ n ih =>
    intro x1 M r h
    exact n_seg (fin := n_fin dv_v G) (K := [(2, fun lv st M => n_lC 107 lv 0 (n_lI lv 1 (fun x1 => n_pE st (fX12_keepsTold_2 N n x1 M)))), (31, fun lv st M => n_lC 107 lv 0 (n_lI lv 1 (fun x1 => n_pE st (fX12_keepsTold_31 N N x1 M))))]) 20 (iX12_keepsTold N hG) (n_kc (fun lv st M r h => by
      obtain ⟨e0, h1⟩ := n_lC_x h
      obtain ⟨x1, e1, h2⟩ := n_lI_x h1
      obtain ⟨rfl, h3⟩ := n_pE_x h2
      exact n_sub (n_qc e0 (n_qc e1 n_qe)) (ih x1 M r h3)) (n_kc (fun lv st M r h => by
      obtain ⟨e0, h1⟩ := n_lC_x h
      obtain ⟨x1, e1, h2⟩ := n_lI_x h1
      obtain ⟨rfl, h3⟩ := n_pE_x h2
      exact n_sub (n_qc e0 (n_qc e1 n_qe)) (bX12_keepsTold_31 N hG N x1 M r h3)) n_ke)) (by rfl) h
def fX12_keepsTold (N : Nat) (M : nM) : Option (Unit × nM) :=
  fX12_keepsTold_2 N N (0 : Int32) M
set_option maxRecDepth 200000 in
theorem bX12_keepsTold_0 {l : Launch} {w : nW} (N : Nat) {G : nG} (hG : n_GOK G) (M : nM) (r : Unit × nM) (h : fX12_keepsTold N M = some r) : n_At l w 1 mX12_keepsTold 0 [(0, .ref 107)] [] (G, M) (dv_v r.1, (G, r.2)) :=
  n_seg (fin := n_fin dv_v G) (K := [(2, fun lv st M => n_lC 107 lv 0 (n_lI lv 1 (fun x1 => n_pE st (fX12_keepsTold_2 N N x1 M))))]) 5 (iX12_keepsTold N hG) (n_kc (fun lv st M r h => by
      obtain ⟨e0, h1⟩ := n_lC_x h
      obtain ⟨x1, e1, h2⟩ := n_lI_x h1
      obtain ⟨rfl, h3⟩ := n_pE_x h2
      exact n_sub (n_qc e0 (n_qc e1 n_qe)) (bX12_keepsTold_2 N hG N x1 M r h3)) n_ke) (by rfl) h
theorem eX12_keepsTold {l : Launch} {w : nW} (N : Nat) {G : nG} (hG : n_GOK G) (M : nM) (r : Unit × nM) (h : fX12_keepsTold N M = some r) : n_Met l w 1 mX12_keepsTold [.ref 107] (G, M) (dv_v r.1, (G, r.2)) :=
  n_entry (by decide +kernel) rfl (Nat.le_of_ble_eq_true rfl) (n_sub (lv := [(0, .ref 107)]) (n_qc rfl n_qe) (bX12_keepsTold_0 N hG M r h))
abbrev hX12_keepsTold (N : Nat) : nF := fun T as M k => n_pC 107 as (fun as => n_pE as ((fX12_keepsTold N M).bind fun p => k (dv_v p.1) p.2))
theorem csX12_keepsTold {l : Launch} {w : nW} (N : Nat) {G : nG} (hG : n_GOK G) : n_CS l w 1 mX12_keepsTold G (hX12_keepsTold N) := fun T as M k r h => by
  obtain ⟨t0, rfl, h1⟩ := n_pC_x h
  obtain ⟨rfl, hE⟩ := n_pE_x h1
  obtain ⟨p, hp, hk⟩ := Option.bind_eq_some_iff.mp hE
  exact ⟨_, _, eX12_keepsTold N hG M p hp, hk⟩
/-! ===== SleightHouseModel.keepsLaw()V ===== -/
def mX12_keepsLaw : nY := (RX12, yX12_keepsLaw, cX12_keepsLaw, 2, none)
theorem okX12_keepsLaw : n_MOK mX12_keepsLaw 0 := ⟨w_2180, w_151, ⟨by decide +kernel, by decide +kernel, by decide +kernel⟩, by decide⟩
abbrev aX12_keepsLaw (N : Nat) : List (Nat × nO (Unit × nM)) := [(0, o_aload 0 1), (1, o_gRc 107 119 4), (4, o_push (.int (0 : Int32)) 5), (5, o_aload 0 6), (6, o_aload 0 7), (7, o_gRc 107 119 10), (10, o_push (.int (0 : Int32)) 11), (11, o_aldc 119 2 12), (12, o_callVc 107 1 (hX12_keeps) 15), (15, o_iastc 119 2 16), (16, o_push (.int (0 : Int32)) 17), (17, o_istore 2 1 18), (18, o_iload 1 19), (19, o_push (.int (16 : Int32)) 21), (21, oc_ge 94 24), (24, o_aload 0 25), (25, o_gRc 107 120 28), (28, o_iload 1 29), (29, o_aload 0 30), (30, o_aload 0 31), (31, o_gRc 107 120 34), (34, o_iload 1 35), (35, o_aldc 120 48 36), (36, o_callVc 107 1 (hX12_keeps) 39), (39, o_iastc 120 48 40), (40, o_aload 0 41), (41, o_gRc 107 121 44), (44, o_iload 1 45), (45, o_aload 0 46), (46, o_aload 0 47), (47, o_gRc 107 121 50), (50, o_iload 1 51), (51, o_aldc 121 48 52), (52, o_callVc 107 1 (hX12_keeps) 55), (55, o_iastc 121 48 56), (56, o_aload 0 57), (57, o_gRc 107 122 60), (60, o_iload 1 61), (61, o_aload 0 62), (62, o_aload 0 63), (63, o_gRc 107 122 66), (66, o_iload 1 67), (67, o_aldc 122 48 68), (68, o_callVc 107 1 (hX12_keeps) 71), (71, o_iastc 122 48 72), (72, o_aload 0 73), (73, o_gRc 107 123 76), (76, o_iload 1 77), (77, o_aload 0 78), (78, o_aload 0 79), (79, o_gRc 107 123 82), (82, o_iload 1 83), (83, o_aldc 123 48 84), (84, o_callVc 107 1 (hX12_keeps) 87), (87, o_iastc 123 48 88), (88, o_inc 2 1 (1 : Int32) 91), (91, o_goto 18), (94, o_push (.int (0 : Int32)) 95), (95, o_istore 2 1 96), (96, o_iload 1 97), (97, o_push (.int (400 : Int32)) 100), (100, oc_ge 141 103), (103, o_aload 0 104), (104, o_gRc 107 124 107), (107, o_iload 1 108), (108, o_aload 0 109), (109, o_aload 0 110), (110, o_gRc 107 124 113), (113, o_iload 1 114), (114, o_aldc 124 1200 115), (115, o_callVc 107 1 (hX12_keeps) 118), (118, o_iastc 124 1200 119), (119, o_aload 0 120), (120, o_gRc 107 125 123), (123, o_iload 1 124), (124, o_aload 0 125), (125, o_aload 0 126), (126, o_gRc 107 125 129), (129, o_iload 1 130), (130, o_aldc 125 1200 131), (131, o_callVc 107 1 (hX12_keeps) 134), (134, o_iastc 125 1200 135), (135, o_inc 2 1 (1 : Int32) 138), (138, o_goto 96), (141, o_vret)]
set_option maxRecDepth 200000 in
theorem iX12_keepsLaw {l : Launch} {w : nW} (N : Nat) {G : nG} (hG : n_GOK G) : n_AllS l w 1 mX12_keepsLaw G (n_fin dv_v G) (aX12_keepsLaw N) :=
  n_c (s_aload_n (pc := 0) (k := 0) (by decide +kernel)) <|
  n_c (s_gRc (s_getR (pc := 1) (ci := 12) (k := 21) (idx := 43) nok12 (by decide) rfl (by decide +kernel) w_1428) (gk107 hG) (gm107_21 hG)) <|
  n_c (s_iconst (pc := 4) (n := 0) (by decide +kernel) (by decide +kernel)) <|
  n_c (s_aload_n (pc := 5) (k := 0) (by decide +kernel)) <|
  n_c (s_aload_n (pc := 6) (k := 0) (by decide +kernel)) <|
  n_c (s_gRc (s_getR (pc := 7) (ci := 12) (k := 21) (idx := 43) nok12 (by decide) rfl (by decide +kernel) w_1428) (gk107 hG) (gm107_21 hG)) <|
  n_c (s_iconst (pc := 10) (n := 0) (by decide +kernel) (by decide +kernel)) <|
  n_c (s_aldc (s_iaload (pc := 11) (by decide +kernel)) (gk119 hG) (gl119 hG)) <|
  n_c (s_callVc (s_callV (pc := 12) (csX12_keeps hG) (by decide) okX12_keeps nok12 w_2163 w_130 w_2161 (by decide +kernel)) (gk107 hG)) <|
  n_c (s_iastc (s_iastore (pc := 15) (by decide +kernel)) (gk119 hG) (gl119 hG)) <|
  n_c (s_iconst (pc := 16) (n := 0) (by decide +kernel) (by decide +kernel)) <|
  n_c (s_istore_n (pc := 17) (k := 1) (by decide +kernel)) <|
  n_c (s_iload_n (pc := 18) (k := 1) (by decide +kernel)) <|
  n_c (s_bipush (pc := 19) (n := 16) (by decide +kernel) (by decide +kernel)) <|
  n_c (s_icmp_ge (pc := 21) (off := 73) (by decide +kernel) (by decide +kernel)) <|
  n_c (s_aload_n (pc := 24) (k := 0) (by decide +kernel)) <|
  n_c (s_gRc (s_getR (pc := 25) (ci := 12) (k := 22) (idx := 46) nok12 (by decide) rfl (by decide +kernel) w_1429) (gk107 hG) (gm107_22 hG)) <|
  n_c (s_iload_n (pc := 28) (k := 1) (by decide +kernel)) <|
  n_c (s_aload_n (pc := 29) (k := 0) (by decide +kernel)) <|
  n_c (s_aload_n (pc := 30) (k := 0) (by decide +kernel)) <|
  n_c (s_gRc (s_getR (pc := 31) (ci := 12) (k := 22) (idx := 46) nok12 (by decide) rfl (by decide +kernel) w_1429) (gk107 hG) (gm107_22 hG)) <|
  n_c (s_iload_n (pc := 34) (k := 1) (by decide +kernel)) <|
  n_c (s_aldc (s_iaload (pc := 35) (by decide +kernel)) (gk120 hG) (gl120 hG)) <|
  n_c (s_callVc (s_callV (pc := 36) (csX12_keeps hG) (by decide) okX12_keeps nok12 w_2163 w_130 w_2161 (by decide +kernel)) (gk107 hG)) <|
  n_c (s_iastc (s_iastore (pc := 39) (by decide +kernel)) (gk120 hG) (gl120 hG)) <|
  n_c (s_aload_n (pc := 40) (k := 0) (by decide +kernel)) <|
  n_c (s_gRc (s_getR (pc := 41) (ci := 12) (k := 23) (idx := 49) nok12 (by decide) rfl (by decide +kernel) w_1430) (gk107 hG) (gm107_23 hG)) <|
  n_c (s_iload_n (pc := 44) (k := 1) (by decide +kernel)) <|
  n_c (s_aload_n (pc := 45) (k := 0) (by decide +kernel)) <|
  n_c (s_aload_n (pc := 46) (k := 0) (by decide +kernel)) <|
  n_c (s_gRc (s_getR (pc := 47) (ci := 12) (k := 23) (idx := 49) nok12 (by decide) rfl (by decide +kernel) w_1430) (gk107 hG) (gm107_23 hG)) <|
  n_c (s_iload_n (pc := 50) (k := 1) (by decide +kernel)) <|
  n_c (s_aldc (s_iaload (pc := 51) (by decide +kernel)) (gk121 hG) (gl121 hG)) <|
  n_c (s_callVc (s_callV (pc := 52) (csX12_keeps hG) (by decide) okX12_keeps nok12 w_2163 w_130 w_2161 (by decide +kernel)) (gk107 hG)) <|
  n_c (s_iastc (s_iastore (pc := 55) (by decide +kernel)) (gk121 hG) (gl121 hG)) <|
  n_c (s_aload_n (pc := 56) (k := 0) (by decide +kernel)) <|
  n_c (s_gRc (s_getR (pc := 57) (ci := 12) (k := 24) (idx := 52) nok12 (by decide) rfl (by decide +kernel) w_1431) (gk107 hG) (gm107_24 hG)) <|
  n_c (s_iload_n (pc := 60) (k := 1) (by decide +kernel)) <|
  n_c (s_aload_n (pc := 61) (k := 0) (by decide +kernel)) <|
  n_c (s_aload_n (pc := 62) (k := 0) (by decide +kernel)) <|
  n_c (s_gRc (s_getR (pc := 63) (ci := 12) (k := 24) (idx := 52) nok12 (by decide) rfl (by decide +kernel) w_1431) (gk107 hG) (gm107_24 hG)) <|
  n_c (s_iload_n (pc := 66) (k := 1) (by decide +kernel)) <|
  n_c (s_aldc (s_iaload (pc := 67) (by decide +kernel)) (gk122 hG) (gl122 hG)) <|
  n_c (s_callVc (s_callV (pc := 68) (csX12_keeps hG) (by decide) okX12_keeps nok12 w_2163 w_130 w_2161 (by decide +kernel)) (gk107 hG)) <|
  n_c (s_iastc (s_iastore (pc := 71) (by decide +kernel)) (gk122 hG) (gl122 hG)) <|
  n_c (s_aload_n (pc := 72) (k := 0) (by decide +kernel)) <|
  n_c (s_gRc (s_getR (pc := 73) (ci := 12) (k := 25) (idx := 55) nok12 (by decide) rfl (by decide +kernel) w_1432) (gk107 hG) (gm107_25 hG)) <|
  n_c (s_iload_n (pc := 76) (k := 1) (by decide +kernel)) <|
  n_c (s_aload_n (pc := 77) (k := 0) (by decide +kernel)) <|
  n_c (s_aload_n (pc := 78) (k := 0) (by decide +kernel)) <|
  n_c (s_gRc (s_getR (pc := 79) (ci := 12) (k := 25) (idx := 55) nok12 (by decide) rfl (by decide +kernel) w_1432) (gk107 hG) (gm107_25 hG)) <|
  n_c (s_iload_n (pc := 82) (k := 1) (by decide +kernel)) <|
  n_c (s_aldc (s_iaload (pc := 83) (by decide +kernel)) (gk123 hG) (gl123 hG)) <|
  n_c (s_callVc (s_callV (pc := 84) (csX12_keeps hG) (by decide) okX12_keeps nok12 w_2163 w_130 w_2161 (by decide +kernel)) (gk107 hG)) <|
  n_c (s_iastc (s_iastore (pc := 87) (by decide +kernel)) (gk123 hG) (gl123 hG)) <|
  n_c (s_iinc (pc := 88) (n := 1) (by decide +kernel) (by decide +kernel)) <|
  n_c (s_goto (pc := 91) (off := -73) (by decide +kernel) (by decide +kernel)) <|
  n_c (s_iconst (pc := 94) (n := 0) (by decide +kernel) (by decide +kernel)) <|
  n_c (s_istore_n (pc := 95) (k := 1) (by decide +kernel)) <|
  n_c (s_iload_n (pc := 96) (k := 1) (by decide +kernel)) <|
  n_c (s_sipush (pc := 97) (n := 400) (by decide +kernel) (by decide +kernel)) <|
  n_c (s_icmp_ge (pc := 100) (off := 41) (by decide +kernel) (by decide +kernel)) <|
  n_c (s_aload_n (pc := 103) (k := 0) (by decide +kernel)) <|
  n_c (s_gRc (s_getR (pc := 104) (ci := 12) (k := 26) (idx := 58) nok12 (by decide) rfl (by decide +kernel) w_1433) (gk107 hG) (gm107_26 hG)) <|
  n_c (s_iload_n (pc := 107) (k := 1) (by decide +kernel)) <|
  n_c (s_aload_n (pc := 108) (k := 0) (by decide +kernel)) <|
  n_c (s_aload_n (pc := 109) (k := 0) (by decide +kernel)) <|
  n_c (s_gRc (s_getR (pc := 110) (ci := 12) (k := 26) (idx := 58) nok12 (by decide) rfl (by decide +kernel) w_1433) (gk107 hG) (gm107_26 hG)) <|
  n_c (s_iload_n (pc := 113) (k := 1) (by decide +kernel)) <|
  n_c (s_aldc (s_iaload (pc := 114) (by decide +kernel)) (gk124 hG) (gl124 hG)) <|
  n_c (s_callVc (s_callV (pc := 115) (csX12_keeps hG) (by decide) okX12_keeps nok12 w_2163 w_130 w_2161 (by decide +kernel)) (gk107 hG)) <|
  n_c (s_iastc (s_iastore (pc := 118) (by decide +kernel)) (gk124 hG) (gl124 hG)) <|
  n_c (s_aload_n (pc := 119) (k := 0) (by decide +kernel)) <|
  n_c (s_gRc (s_getR (pc := 120) (ci := 12) (k := 27) (idx := 61) nok12 (by decide) rfl (by decide +kernel) w_1434) (gk107 hG) (gm107_27 hG)) <|
  n_c (s_iload_n (pc := 123) (k := 1) (by decide +kernel)) <|
  n_c (s_aload_n (pc := 124) (k := 0) (by decide +kernel)) <|
  n_c (s_aload_n (pc := 125) (k := 0) (by decide +kernel)) <|
  n_c (s_gRc (s_getR (pc := 126) (ci := 12) (k := 27) (idx := 61) nok12 (by decide) rfl (by decide +kernel) w_1434) (gk107 hG) (gm107_27 hG)) <|
  n_c (s_iload_n (pc := 129) (k := 1) (by decide +kernel)) <|
  n_c (s_aldc (s_iaload (pc := 130) (by decide +kernel)) (gk125 hG) (gl125 hG)) <|
  n_c (s_callVc (s_callV (pc := 131) (csX12_keeps hG) (by decide) okX12_keeps nok12 w_2163 w_130 w_2161 (by decide +kernel)) (gk107 hG)) <|
  n_c (s_iastc (s_iastore (pc := 134) (by decide +kernel)) (gk125 hG) (gl125 hG)) <|
  n_c (s_iinc (pc := 135) (n := 1) (by decide +kernel) (by decide +kernel)) <|
  n_c (s_goto (pc := 138) (off := -42) (by decide +kernel) (by decide +kernel)) <|
  n_c (s_vret (pc := 141) rfl (by decide +kernel)) <|
  n_e
def fX12_keepsLaw_96 (N : Nat) : Nat → Int32 → nM → Option (Unit × nM)
  | 0, _, _ => none
  | n + 1, x1, M =>
    if (400 : Int32) ≤ x1 then
      some ((), M)
    else
      n_chk (n_ib 1200 x1) <|
      (fX12_keeps (M 124 x1.toNatClampNeg) M).bind fun p1 =>
      n_chk (n_ib 1200 x1) <|
      let M2 : nM := n_up p1.2 124 x1.toNatClampNeg p1.1
      n_chk (n_ib 1200 x1) <|
      (fX12_keeps (M2 125 x1.toNatClampNeg) M2).bind fun p3 =>
      n_chk (n_ib 1200 x1) <|
      let M4 : nM := n_up p3.2 125 x1.toNatClampNeg p3.1
      let v5 : Int32 := (x1 + (1 : Int32))
      fX12_keepsLaw_96 N n v5 M4
set_option maxRecDepth 200000 in
theorem bX12_keepsLaw_96 {l : Launch} {w : nW} (N : Nat) {G : nG} (hG : n_GOK G) : ∀ (n : Nat) (x1 : Int32) (M : nM) (r : Unit × nM), fX12_keepsLaw_96 N n x1 M = some r → n_At l w 1 mX12_keepsLaw 96 [(0, .ref 107), (1, .int x1)] [] (G, M) (dv_v r.1, (G, r.2)) := by
  intro n
  induction n with
  | zero => intro x1 M r h; cases (show (none : Option (Unit × nM)) = some r from h)
  | succ n ih =>
    intro x1 M r h
    exact n_seg (fin := n_fin dv_v G) (K := [(96, fun lv st M => n_lC 107 lv 0 (n_lI lv 1 (fun x1 => n_pE st (fX12_keepsLaw_96 N n x1 M))))]) 29 (iX12_keepsLaw N hG) (n_kc (fun lv st M r h => by
      obtain ⟨e0, h1⟩ := n_lC_x h
      obtain ⟨x1, e1, h2⟩ := n_lI_x h1
      obtain ⟨rfl, h3⟩ := n_pE_x h2
      exact n_sub (n_qc e0 (n_qc e1 n_qe)) (ih x1 M r h3)) n_ke) (by rfl) h
def fX12_keepsLaw_18 (N : Nat) : Nat → Int32 → nM → Option (Unit × nM)
  | 0, _, _ => none
  | n + 1, x1, M =>
    if (16 : Int32) ≤ x1 then
      fX12_keepsLaw_96 N N (0 : Int32) M
    else
      n_chk (n_ib 48 x1) <|
      (fX12_keeps (M 120 x1.toNatClampNeg) M).bind fun p1 =>
      n_chk (n_ib 48 x1) <|
      let M2 : nM := n_up p1.2 120 x1.toNatClampNeg p1.1
      n_chk (n_ib 48 x1) <|
      (fX12_keeps (M2 121 x1.toNatClampNeg) M2).bind fun p3 =>
      n_chk (n_ib 48 x1) <|
      let M4 : nM := n_up p3.2 121 x1.toNatClampNeg p3.1
      n_chk (n_ib 48 x1) <|
      (fX12_keeps (M4 122 x1.toNatClampNeg) M4).bind fun p5 =>
      n_chk (n_ib 48 x1) <|
      let M6 : nM := n_up p5.2 122 x1.toNatClampNeg p5.1
      n_chk (n_ib 48 x1) <|
      (fX12_keeps (M6 123 x1.toNatClampNeg) M6).bind fun p7 =>
      n_chk (n_ib 48 x1) <|
      let M8 : nM := n_up p7.2 123 x1.toNatClampNeg p7.1
      let v9 : Int32 := (x1 + (1 : Int32))
      fX12_keepsLaw_18 N n v9 M8
set_option maxRecDepth 200000 in
theorem bX12_keepsLaw_18 {l : Launch} {w : nW} (N : Nat) {G : nG} (hG : n_GOK G) : ∀ (n : Nat) (x1 : Int32) (M : nM) (r : Unit × nM), fX12_keepsLaw_18 N n x1 M = some r → n_At l w 1 mX12_keepsLaw 18 [(0, .ref 107), (1, .int x1)] [] (G, M) (dv_v r.1, (G, r.2)) := by
  intro n
  induction n with
  | zero => intro x1 M r h; cases (show (none : Option (Unit × nM)) = some r from h)
  | succ n ih =>
    intro x1 M r h
    exact n_seg (fin := n_fin dv_v G) (K := [(18, fun lv st M => n_lC 107 lv 0 (n_lI lv 1 (fun x1 => n_pE st (fX12_keepsLaw_18 N n x1 M)))), (96, fun lv st M => n_lC 107 lv 0 (n_lI lv 1 (fun x1 => n_pE st (fX12_keepsLaw_96 N N x1 M))))]) 50 (iX12_keepsLaw N hG) (n_kc (fun lv st M r h => by
      obtain ⟨e0, h1⟩ := n_lC_x h
      obtain ⟨x1, e1, h2⟩ := n_lI_x h1
      obtain ⟨rfl, h3⟩ := n_pE_x h2
      exact n_sub (n_qc e0 (n_qc e1 n_qe)) (ih x1 M r h3)) (n_kc (fun lv st M r h => by
      obtain ⟨e0, h1⟩ := n_lC_x h
      obtain ⟨x1, e1, h2⟩ := n_lI_x h1
      obtain ⟨rfl, h3⟩ := n_pE_x h2
      exact n_sub (n_qc e0 (n_qc e1 n_qe)) (bX12_keepsLaw_96 N hG N x1 M r h3)) n_ke)) (by rfl) h
def fX12_keepsLaw (N : Nat) (M : nM) : Option (Unit × nM) :=
  n_chk (n_ib 2 (0 : Int32)) <|
  (fX12_keeps (M 119 (0 : Int32).toNatClampNeg) M).bind fun p1 =>
  n_chk (n_ib 2 (0 : Int32)) <|
  let M2 : nM := n_up p1.2 119 (0 : Int32).toNatClampNeg p1.1
  fX12_keepsLaw_18 N N (0 : Int32) M2
set_option maxRecDepth 200000 in
theorem bX12_keepsLaw_0 {l : Launch} {w : nW} (N : Nat) {G : nG} (hG : n_GOK G) (M : nM) (r : Unit × nM) (h : fX12_keepsLaw N M = some r) : n_At l w 1 mX12_keepsLaw 0 [(0, .ref 107)] [] (G, M) (dv_v r.1, (G, r.2)) :=
  n_seg (fin := n_fin dv_v G) (K := [(18, fun lv st M => n_lC 107 lv 0 (n_lI lv 1 (fun x1 => n_pE st (fX12_keepsLaw_18 N N x1 M))))]) 15 (iX12_keepsLaw N hG) (n_kc (fun lv st M r h => by
      obtain ⟨e0, h1⟩ := n_lC_x h
      obtain ⟨x1, e1, h2⟩ := n_lI_x h1
      obtain ⟨rfl, h3⟩ := n_pE_x h2
      exact n_sub (n_qc e0 (n_qc e1 n_qe)) (bX12_keepsLaw_18 N hG N x1 M r h3)) n_ke) (by rfl) h
theorem eX12_keepsLaw {l : Launch} {w : nW} (N : Nat) {G : nG} (hG : n_GOK G) (M : nM) (r : Unit × nM) (h : fX12_keepsLaw N M = some r) : n_Met l w 1 mX12_keepsLaw [.ref 107] (G, M) (dv_v r.1, (G, r.2)) :=
  n_entry (by decide +kernel) rfl (Nat.le_of_ble_eq_true rfl) (n_sub (lv := [(0, .ref 107)]) (n_qc rfl n_qe) (bX12_keepsLaw_0 N hG M r h))
abbrev hX12_keepsLaw (N : Nat) : nF := fun T as M k => n_pC 107 as (fun as => n_pE as ((fX12_keepsLaw N M).bind fun p => k (dv_v p.1) p.2))
theorem csX12_keepsLaw {l : Launch} {w : nW} (N : Nat) {G : nG} (hG : n_GOK G) : n_CS l w 1 mX12_keepsLaw G (hX12_keepsLaw N) := fun T as M k r h => by
  obtain ⟨t0, rfl, h1⟩ := n_pC_x h
  obtain ⟨rfl, hE⟩ := n_pE_x h1
  obtain ⟨p, hp, hk⟩ := Option.bind_eq_some_iff.mp hE
  exact ⟨_, _, eX12_keepsLaw N hG M p hp, hk⟩
/-! ===== SleightHouseModel.image(Z)Z ===== -/
def mX12_image : nY := (RX12, yX12_image, cX12_image, 3, some .boolean)
theorem okX12_image : n_MOK mX12_image 1 := ⟨w_2160, w_151, ⟨by decide +kernel, by decide +kernel, by decide +kernel⟩, by decide⟩
abbrev aX12_image (N : Nat) : List (Nat × nO (Int32 × nM)) := [(0, o_aload 0 1), (1, o_push (.int (0 : Int32)) 2), (2, o_pIc 107 0 5), (5, o_iload 1 6), (6, oi_ne 18 9), (9, o_aload 0 10), (10, o_gIc 107 76 13), (13, oi_ne 18 16), (16, o_push (.int (0 : Int32)) 17), (17, o_zret), (18, o_aload 0 19), (19, o_iload 1 20), (20, o_pZc 107 75 23), (23, o_aload 0 24), (24, o_push (.int (1 : Int32)) 25), (25, o_pZc 107 76 28), (28, o_aload 0 29), (29, o_push (.int (0 : Int32)) 30), (30, o_pIc 107 77 33), (33, o_push (.int (0 : Int32)) 34), (34, o_istore 3 2 35), (35, o_iload 2 36), (36, o_push (.int (100 : Int32)) 38), (38, oc_ge 63 41), (41, o_aload 0 42), (42, o_gRc 107 108 45), (45, o_iload 2 46), (46, o_aload 0 47), (47, o_aload 0 48), (48, o_gRc 107 108 51), (51, o_iload 2 52), (52, o_aldc 108 100 53), (53, o_callVc 107 1 (hX12_keeps) 56), (56, o_iastc 108 100 57), (57, o_inc 3 2 (1 : Int32) 60), (60, o_goto 35), (63, o_aload 0 64), (64, o_callVc 107 0 (hX12_keepsMany) 67), (67, o_aload 0 68), (68, o_callVc 107 0 (hX12_keepsThings N) 71), (71, o_aload 0 72), (72, o_callVc 107 0 (hX12_keepsTold N) 75), (75, o_push (.int (0 : Int32)) 76), (76, o_istore 3 2 77), (77, o_iload 2 78), (78, o_push (.int (600 : Int32)) 81), (81, oc_ge 106 84), (84, o_aload 0 85), (85, o_gRc 107 116 88), (88, o_iload 2 89), (89, o_aload 0 90), (90, o_aload 0 91), (91, o_gRc 107 116 94), (94, o_iload 2 95), (95, o_aldc 116 600 96), (96, o_callVc 107 1 (hX12_keeps) 99), (99, o_iastc 116 600 100), (100, o_inc 3 2 (1 : Int32) 103), (103, o_goto 77), (106, o_aload 0 107), (107, o_callVc 107 0 (hX12_keepsLaw N) 110), (110, o_iload 1 111), (111, oi_ne 119 114), (114, o_aload 0 115), (115, o_push (.int (0 : Int32)) 116), (116, o_pIc 107 3 119), (119, o_push (.int (1 : Int32)) 120), (120, o_zret)]
set_option maxRecDepth 200000 in
theorem iX12_image {l : Launch} {w : nW} (N : Nat) {G : nG} (hG : n_GOK G) : n_AllS l w 2 mX12_image G (n_fin dv_i G) (aX12_image N) :=
  n_c (s_aload_n (pc := 0) (k := 0) (by decide +kernel)) <|
  n_c (s_iconst (pc := 1) (n := 0) (by decide +kernel) (by decide +kernel)) <|
  n_c (s_pIc (s_putI (pc := 2) (ci := 12) (k := 0) (idx := 146) nok12 (by decide) rfl rfl (by decide +kernel) w_1407) (gk107 hG)) <|
  n_c (s_iload_n (pc := 5) (k := 1) (by decide +kernel)) <|
  n_c (s_if_ne (pc := 6) (off := 12) (by decide +kernel) (by decide +kernel)) <|
  n_c (s_aload_n (pc := 9) (k := 0) (by decide +kernel)) <|
  n_c (s_gIc (s_getI (pc := 10) (ci := 12) (k := 76) (idx := 517) nok12 (by decide) rfl (by decide +kernel) w_1483) (gk107 hG)) <|
  n_c (s_if_ne (pc := 13) (off := 5) (by decide +kernel) (by decide +kernel)) <|
  n_c (s_iconst (pc := 16) (n := 0) (by decide +kernel) (by decide +kernel)) <|
  n_c (s_zret (pc := 17) rfl (by decide +kernel)) <|
  n_c (s_aload_n (pc := 18) (k := 0) (by decide +kernel)) <|
  n_c (s_iload_n (pc := 19) (k := 1) (by decide +kernel)) <|
  n_c (s_pZc (s_putZ (pc := 20) (ci := 12) (k := 75) (idx := 511) nok12 (by decide) rfl rfl (by decide +kernel) w_1482) (gk107 hG)) <|
  n_c (s_aload_n (pc := 23) (k := 0) (by decide +kernel)) <|
  n_c (s_iconst (pc := 24) (n := 1) (by decide +kernel) (by decide +kernel)) <|
  n_c (s_pZc (s_putZ (pc := 25) (ci := 12) (k := 76) (idx := 517) nok12 (by decide) rfl rfl (by decide +kernel) w_1483) (gk107 hG)) <|
  n_c (s_aload_n (pc := 28) (k := 0) (by decide +kernel)) <|
  n_c (s_iconst (pc := 29) (n := 0) (by decide +kernel) (by decide +kernel)) <|
  n_c (s_pIc (s_putI (pc := 30) (ci := 12) (k := 77) (idx := 508) nok12 (by decide) rfl rfl (by decide +kernel) w_1484) (gk107 hG)) <|
  n_c (s_iconst (pc := 33) (n := 0) (by decide +kernel) (by decide +kernel)) <|
  n_c (s_istore_n (pc := 34) (k := 2) (by decide +kernel)) <|
  n_c (s_iload_n (pc := 35) (k := 2) (by decide +kernel)) <|
  n_c (s_bipush (pc := 36) (n := 100) (by decide +kernel) (by decide +kernel)) <|
  n_c (s_icmp_ge (pc := 38) (off := 25) (by decide +kernel) (by decide +kernel)) <|
  n_c (s_aload_n (pc := 41) (k := 0) (by decide +kernel)) <|
  n_c (s_gRc (s_getR (pc := 42) (ci := 12) (k := 1) (idx := 7) nok12 (by decide) rfl (by decide +kernel) w_1408) (gk107 hG) (gm107_1 hG)) <|
  n_c (s_iload_n (pc := 45) (k := 2) (by decide +kernel)) <|
  n_c (s_aload_n (pc := 46) (k := 0) (by decide +kernel)) <|
  n_c (s_aload_n (pc := 47) (k := 0) (by decide +kernel)) <|
  n_c (s_gRc (s_getR (pc := 48) (ci := 12) (k := 1) (idx := 7) nok12 (by decide) rfl (by decide +kernel) w_1408) (gk107 hG) (gm107_1 hG)) <|
  n_c (s_iload_n (pc := 51) (k := 2) (by decide +kernel)) <|
  n_c (s_aldc (s_iaload (pc := 52) (by decide +kernel)) (gk108 hG) (gl108 hG)) <|
  n_c (s_callVc (s_callV (pc := 53) (csX12_keeps hG) (by decide) okX12_keeps nok12 w_2163 w_130 w_2161 (by decide +kernel)) (gk107 hG)) <|
  n_c (s_iastc (s_iastore (pc := 56) (by decide +kernel)) (gk108 hG) (gl108 hG)) <|
  n_c (s_iinc (pc := 57) (n := 1) (by decide +kernel) (by decide +kernel)) <|
  n_c (s_goto (pc := 60) (off := -25) (by decide +kernel) (by decide +kernel)) <|
  n_c (s_aload_n (pc := 63) (k := 0) (by decide +kernel)) <|
  n_c (s_callVc (s_callV (pc := 64) (csX12_keepsMany hG) (by decide) okX12_keepsMany nok12 w_2167 w_131 w_2165 (by decide +kernel)) (gk107 hG)) <|
  n_c (s_aload_n (pc := 67) (k := 0) (by decide +kernel)) <|
  n_c (s_callVc (s_callV (pc := 68) (csX12_keepsThings N hG) (by decide) okX12_keepsThings nok12 w_2171 w_132 w_2169 (by decide +kernel)) (gk107 hG)) <|
  n_c (s_aload_n (pc := 71) (k := 0) (by decide +kernel)) <|
  n_c (s_callVc (s_callV (pc := 72) (csX12_keepsTold N hG) (by decide) okX12_keepsTold nok12 w_2175 w_133 w_2173 (by decide +kernel)) (gk107 hG)) <|
  n_c (s_iconst (pc := 75) (n := 0) (by decide +kernel) (by decide +kernel)) <|
  n_c (s_istore_n (pc := 76) (k := 2) (by decide +kernel)) <|
  n_c (s_iload_n (pc := 77) (k := 2) (by decide +kernel)) <|
  n_c (s_sipush (pc := 78) (n := 600) (by decide +kernel) (by decide +kernel)) <|
  n_c (s_icmp_ge (pc := 81) (off := 25) (by decide +kernel) (by decide +kernel)) <|
  n_c (s_aload_n (pc := 84) (k := 0) (by decide +kernel)) <|
  n_c (s_gRc (s_getR (pc := 85) (ci := 12) (k := 13) (idx := 34) nok12 (by decide) rfl (by decide +kernel) w_1420) (gk107 hG) (gm107_13 hG)) <|
  n_c (s_iload_n (pc := 88) (k := 2) (by decide +kernel)) <|
  n_c (s_aload_n (pc := 89) (k := 0) (by decide +kernel)) <|
  n_c (s_aload_n (pc := 90) (k := 0) (by decide +kernel)) <|
  n_c (s_gRc (s_getR (pc := 91) (ci := 12) (k := 13) (idx := 34) nok12 (by decide) rfl (by decide +kernel) w_1420) (gk107 hG) (gm107_13 hG)) <|
  n_c (s_iload_n (pc := 94) (k := 2) (by decide +kernel)) <|
  n_c (s_aldc (s_iaload (pc := 95) (by decide +kernel)) (gk116 hG) (gl116 hG)) <|
  n_c (s_callVc (s_callV (pc := 96) (csX12_keeps hG) (by decide) okX12_keeps nok12 w_2163 w_130 w_2161 (by decide +kernel)) (gk107 hG)) <|
  n_c (s_iastc (s_iastore (pc := 99) (by decide +kernel)) (gk116 hG) (gl116 hG)) <|
  n_c (s_iinc (pc := 100) (n := 1) (by decide +kernel) (by decide +kernel)) <|
  n_c (s_goto (pc := 103) (off := -26) (by decide +kernel) (by decide +kernel)) <|
  n_c (s_aload_n (pc := 106) (k := 0) (by decide +kernel)) <|
  n_c (s_callVc (s_callV (pc := 107) (csX12_keepsLaw N hG) (by decide) okX12_keepsLaw nok12 w_2179 w_134 w_2177 (by decide +kernel)) (gk107 hG)) <|
  n_c (s_iload_n (pc := 110) (k := 1) (by decide +kernel)) <|
  n_c (s_if_ne (pc := 111) (off := 8) (by decide +kernel) (by decide +kernel)) <|
  n_c (s_aload_n (pc := 114) (k := 0) (by decide +kernel)) <|
  n_c (s_iconst (pc := 115) (n := 0) (by decide +kernel) (by decide +kernel)) <|
  n_c (s_pIc (s_putI (pc := 116) (ci := 12) (k := 3) (idx := 149) nok12 (by decide) rfl rfl (by decide +kernel) w_1410) (gk107 hG)) <|
  n_c (s_iconst (pc := 119) (n := 1) (by decide +kernel) (by decide +kernel)) <|
  n_c (s_zret (pc := 120) rfl (by decide +kernel)) <|
  n_e
def fX12_image_77 (N : Nat) : Nat → Int32 → Int32 → nM → Option (Int32 × nM)
  | 0, _, _, _ => none
  | n + 1, x1, x2, M =>
    if (600 : Int32) ≤ x2 then
      (fX12_keepsLaw N M).bind fun p1 =>
      if ¬ x1 = 0 then
        some ((1 : Int32), p1.2)
      else
        let M2 : nM := n_up p1.2 107 3 (0 : Int32)
        some ((1 : Int32), M2)
    else
      n_chk (n_ib 600 x2) <|
      (fX12_keeps (M 116 x2.toNatClampNeg) M).bind fun p3 =>
      n_chk (n_ib 600 x2) <|
      let M4 : nM := n_up p3.2 116 x2.toNatClampNeg p3.1
      let v5 : Int32 := (x2 + (1 : Int32))
      fX12_image_77 N n x1 v5 M4
set_option maxRecDepth 200000 in
theorem bX12_image_77 {l : Launch} {w : nW} (N : Nat) {G : nG} (hG : n_GOK G) : ∀ (n : Nat) (x1 : Int32) (x2 : Int32) (M : nM) (r : Int32 × nM), fX12_image_77 N n x1 x2 M = some r → n_At l w 2 mX12_image 77 [(0, .ref 107), (1, .int x1), (2, .int x2)] [] (G, M) (dv_i r.1, (G, r.2)) := by
  intro n
  induction n with
  | zero => intro x1 x2 M r h; cases (show (none : Option (Int32 × nM)) = some r from h)
  | succ n ih =>
    intro x1 x2 M r h
    exact n_seg (fin := n_fin dv_i G) (K := [(77, fun lv st M => n_lC 107 lv 0 (n_lI lv 1 (fun x1 => n_lI lv 2 (fun x2 => n_pE st (fX12_image_77 N n x1 x2 M)))))]) 29 (iX12_image N hG) (n_kc (fun lv st M r h => by
      obtain ⟨e0, h1⟩ := n_lC_x h
      obtain ⟨x1, e1, h2⟩ := n_lI_x h1
      obtain ⟨x2, e2, h3⟩ := n_lI_x h2
      obtain ⟨rfl, h4⟩ := n_pE_x h3
      exact n_sub (n_qc e0 (n_qc e1 (n_qc e2 n_qe))) (ih x1 x2 M r h4)) n_ke) (by rfl) h
def fX12_image_35 (N : Nat) : Nat → Int32 → Int32 → nM → Option (Int32 × nM)
  | 0, _, _, _ => none
  | n + 1, x1, x2, M =>
    if (100 : Int32) ≤ x2 then
      (fX12_keepsMany M).bind fun p1 =>
      (fX12_keepsThings N p1.2).bind fun p2 =>
      (fX12_keepsTold N p2.2).bind fun p3 =>
      fX12_image_77 N N x1 (0 : Int32) p3.2
    else
      n_chk (n_ib 100 x2) <|
      (fX12_keeps (M 108 x2.toNatClampNeg) M).bind fun p4 =>
      n_chk (n_ib 100 x2) <|
      let M5 : nM := n_up p4.2 108 x2.toNatClampNeg p4.1
      let v6 : Int32 := (x2 + (1 : Int32))
      fX12_image_35 N n x1 v6 M5
set_option maxRecDepth 200000 in
theorem bX12_image_35 {l : Launch} {w : nW} (N : Nat) {G : nG} (hG : n_GOK G) : ∀ (n : Nat) (x1 : Int32) (x2 : Int32) (M : nM) (r : Int32 × nM), fX12_image_35 N n x1 x2 M = some r → n_At l w 2 mX12_image 35 [(0, .ref 107), (1, .int x1), (2, .int x2)] [] (G, M) (dv_i r.1, (G, r.2)) := by
  intro n
  induction n with
  | zero => intro x1 x2 M r h; cases (show (none : Option (Int32 × nM)) = some r from h)
  | succ n ih =>
    intro x1 x2 M r h
    exact n_seg (fin := n_fin dv_i G) (K := [(35, fun lv st M => n_lC 107 lv 0 (n_lI lv 1 (fun x1 => n_lI lv 2 (fun x2 => n_pE st (fX12_image_35 N n x1 x2 M))))), (77, fun lv st M => n_lC 107 lv 0 (n_lI lv 1 (fun x1 => n_lI lv 2 (fun x2 => n_pE st (fX12_image_77 N N x1 x2 M)))))]) 26 (iX12_image N hG) (n_kc (fun lv st M r h => by
      obtain ⟨e0, h1⟩ := n_lC_x h
      obtain ⟨x1, e1, h2⟩ := n_lI_x h1
      obtain ⟨x2, e2, h3⟩ := n_lI_x h2
      obtain ⟨rfl, h4⟩ := n_pE_x h3
      exact n_sub (n_qc e0 (n_qc e1 (n_qc e2 n_qe))) (ih x1 x2 M r h4)) (n_kc (fun lv st M r h => by
      obtain ⟨e0, h1⟩ := n_lC_x h
      obtain ⟨x1, e1, h2⟩ := n_lI_x h1
      obtain ⟨x2, e2, h3⟩ := n_lI_x h2
      obtain ⟨rfl, h4⟩ := n_pE_x h3
      exact n_sub (n_qc e0 (n_qc e1 (n_qc e2 n_qe))) (bX12_image_77 N hG N x1 x2 M r h4)) n_ke)) (by rfl) h
def fX12_image_18 (N : Nat) (x1 : Int32) (M : nM) : Option (Int32 × nM) :=
  n_chk (x1 == 0 || x1 == 1) <|
  let M1 : nM := n_up M 107 75 x1
  n_chk ((1 : Int32) == 0 || (1 : Int32) == 1) <|
  let M2 : nM := n_up M1 107 76 (1 : Int32)
  let M3 : nM := n_up M2 107 77 (0 : Int32)
  fX12_image_35 N N x1 (0 : Int32) M3
set_option maxRecDepth 200000 in
theorem bX12_image_18 {l : Launch} {w : nW} (N : Nat) {G : nG} (hG : n_GOK G) (x1 : Int32) (M : nM) (r : Int32 × nM) (h : fX12_image_18 N x1 M = some r) : n_At l w 2 mX12_image 18 [(0, .ref 107), (1, .int x1)] [] (G, M) (dv_i r.1, (G, r.2)) :=
  n_seg (fin := n_fin dv_i G) (K := [(35, fun lv st M => n_lC 107 lv 0 (n_lI lv 1 (fun x1 => n_lI lv 2 (fun x2 => n_pE st (fX12_image_35 N N x1 x2 M)))))]) 14 (iX12_image N hG) (n_kc (fun lv st M r h => by
      obtain ⟨e0, h1⟩ := n_lC_x h
      obtain ⟨x1, e1, h2⟩ := n_lI_x h1
      obtain ⟨x2, e2, h3⟩ := n_lI_x h2
      obtain ⟨rfl, h4⟩ := n_pE_x h3
      exact n_sub (n_qc e0 (n_qc e1 (n_qc e2 n_qe))) (bX12_image_35 N hG N x1 x2 M r h4)) n_ke) (by rfl) h
def fX12_image (N : Nat) (x1 : Int32) (M : nM) : Option (Int32 × nM) :=
  let M1 : nM := n_up M 107 0 (0 : Int32)
  if ¬ x1 = 0 then
    fX12_image_18 N x1 M1
  else
    if ¬ (M1 107 76) = 0 then
      fX12_image_18 N x1 M1
    else
      some ((0 : Int32), M1)
set_option maxRecDepth 200000 in
theorem bX12_image_0 {l : Launch} {w : nW} (N : Nat) {G : nG} (hG : n_GOK G) (x1 : Int32) (M : nM) (r : Int32 × nM) (h : fX12_image N x1 M = some r) : n_At l w 2 mX12_image 0 [(0, .ref 107), (1, .int x1)] [] (G, M) (dv_i r.1, (G, r.2)) :=
  n_seg (fin := n_fin dv_i G) (K := [(18, fun lv st M => n_lC 107 lv 0 (n_lI lv 1 (fun x1 => n_pE st (fX12_image_18 N x1 M))))]) 13 (iX12_image N hG) (n_kc (fun lv st M r h => by
      obtain ⟨e0, h1⟩ := n_lC_x h
      obtain ⟨x1, e1, h2⟩ := n_lI_x h1
      obtain ⟨rfl, h3⟩ := n_pE_x h2
      exact n_sub (n_qc e0 (n_qc e1 n_qe)) (bX12_image_18 N hG x1 M r h3)) n_ke) (by rfl) h
theorem eX12_image {l : Launch} {w : nW} (N : Nat) {G : nG} (hG : n_GOK G) (z1 : Int32) (M : nM) (r : Int32 × nM) (h : fX12_image N z1 M = some r) : n_Met l w 2 mX12_image [.ref 107, .int z1] (G, M) (dv_i r.1, (G, r.2)) :=
  n_entry (by decide +kernel) rfl (Nat.le_of_ble_eq_true rfl) (n_sub (lv := [(0, .ref 107), (1, .int z1)]) (n_qc rfl (n_qc rfl n_qe)) (bX12_image_0 N hG z1 M r h))
abbrev hX12_image (N : Nat) : nF := fun T as M k => n_pC 107 as (fun as => n_pI as (fun z1 as => n_pE as ((fX12_image N z1 M).bind fun p => k (dv_i p.1) p.2)))
theorem csX12_image {l : Launch} {w : nW} (N : Nat) {G : nG} (hG : n_GOK G) : n_CS l w 2 mX12_image G (hX12_image N) := fun T as M k r h => by
  obtain ⟨t0, rfl, h1⟩ := n_pC_x h
  obtain ⟨z1, t1, rfl, h2⟩ := n_pI_x h1
  obtain ⟨rfl, hE⟩ := n_pE_x h2
  obtain ⟨p, hp, hk⟩ := Option.bind_eq_some_iff.mp hE
  exact ⟨_, _, eX12_image N hG z1 M p hp, hk⟩
