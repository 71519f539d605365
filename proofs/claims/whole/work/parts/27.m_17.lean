/-! ===== SleightHouse.look(I)I ===== -/
def mX11_look : nY := (RX11, yX11_look, cX11_look, 2, some .int)
theorem okX11_look : n_MOK mX11_look 1 := ⟨w_1400, w_137, ⟨by decide +kernel, by decide +kernel, by decide +kernel⟩, by decide⟩
abbrev aX11_look : List (Nat × nO (Int32 × nM)) := [(0, o_iload 1 1), (1, o_sw [((0 : Int32), 68), ((1 : Int32), 79), ((2 : Int32), 90), ((3 : Int32), 101), ((4 : Int32), 112), ((5 : Int32), 123), ((6 : Int32), 134), ((7 : Int32), 145), ((8 : Int32), 156), ((9 : Int32), 167), ((10 : Int32), 178), ((11 : Int32), 189), ((12 : Int32), 200)] 208), (68, o_aload 0 69), (69, o_gRc 1 2 72), (72, o_gRc 2 3 75), (75, o_gIc 3 5 78), (78, o_iret), (79, o_aload 0 80), (80, o_gRc 1 2 83), (83, o_gRc 2 3 86), (86, o_gIc 3 6 89), (89, o_iret), (90, o_aload 0 91), (91, o_gRc 1 2 94), (94, o_gRc 2 9 97), (97, o_gIc 9 8 100), (100, o_iret), (101, o_aload 0 102), (102, o_gRc 1 2 105), (105, o_gRc 2 9 108), (108, o_gIc 9 5 111), (111, o_iret), (112, o_aload 0 113), (113, o_gRc 1 2 116), (116, o_gRc 2 9 119), (119, o_gIc 9 7 122), (122, o_iret), (123, o_aload 0 124), (124, o_gRc 1 2 127), (127, o_gRc 2 9 130), (130, o_gIc 9 9 133), (133, o_iret), (134, o_aload 0 135), (135, o_gRc 1 2 138), (138, o_gRc 2 9 141), (141, o_gIc 9 11 144), (144, o_iret), (145, o_aload 0 146), (146, o_gRc 1 2 149), (149, o_gRc 2 9 152), (152, o_gIc 9 10 155), (155, o_iret), (156, o_aload 0 157), (157, o_gRc 1 2 160), (160, o_gRc 2 16 163), (163, o_gIc 16 6 166), (166, o_iret), (167, o_aload 0 168), (168, o_gRc 1 2 171), (171, o_gRc 2 22 174), (174, o_gIc 22 3 177), (177, o_iret), (178, o_aload 0 179), (179, o_gRc 1 2 182), (182, o_gRc 2 24 185), (185, o_gIc 24 3 188), (188, o_iret), (189, o_aload 0 190), (190, o_gRc 1 2 193), (193, o_gRc 2 26 196), (196, o_gIc 26 3 199), (199, o_iret), (200, o_aload 0 201), (201, o_gRc 1 48 204), (204, o_gIc 48 2 207), (207, o_iret), (208, o_push (.int (-1 : Int32)) 209), (209, o_iret)]
set_option maxRecDepth 200000 in
theorem iX11_look {l : Launch} {w : nW} {G : nG} (hG : n_GOK G) : n_AllS l w 0 mX11_look G (n_fin dv_i G) (aX11_look) :=
  n_c (s_iload_n (pc := 0) (k := 1) (by decide +kernel)) <|
  n_c (s_tsw (pc := 1) (dflt := 207) (lo := 0) (hi := 12) (offs := #[67, 78, 89, 100, 111, 122, 133, 144, 155, 166, 177, 188, 199]) (len := 67) (by decide +kernel) (by decide +kernel)) <|
  n_c (s_aload_n (pc := 68) (k := 0) (by decide +kernel)) <|
  n_c (s_gRc (s_getR (pc := 69) (ci := 11) (k := 0) (idx := 10) nok11 (by decide) rfl (by decide +kernel) w_572) (gk1 hG) (gm1_0 hG)) <|
  n_c (s_gRc (s_getR (pc := 72) (ci := 1) (k := 0) (idx := 34) nok1 (by decide) rfl (by decide +kernel) w_403) (gk2 hG) (gm2_0 hG)) <|
  n_c (s_gIc (s_getI (pc := 75) (ci := 8) (k := 5) (idx := 406) nok8 (by decide) rfl (by decide +kernel) w_201) (gk3 hG)) <|
  n_c (s_iret (pc := 78) rfl (by decide +kernel)) <|
  n_c (s_aload_n (pc := 79) (k := 0) (by decide +kernel)) <|
  n_c (s_gRc (s_getR (pc := 80) (ci := 11) (k := 0) (idx := 10) nok11 (by decide) rfl (by decide +kernel) w_572) (gk1 hG) (gm1_0 hG)) <|
  n_c (s_gRc (s_getR (pc := 83) (ci := 1) (k := 0) (idx := 34) nok1 (by decide) rfl (by decide +kernel) w_403) (gk2 hG) (gm2_0 hG)) <|
  n_c (s_gIc (s_getI (pc := 86) (ci := 8) (k := 6) (idx := 345) nok8 (by decide) rfl (by decide +kernel) w_205) (gk3 hG)) <|
  n_c (s_iret (pc := 89) rfl (by decide +kernel)) <|
  n_c (s_aload_n (pc := 90) (k := 0) (by decide +kernel)) <|
  n_c (s_gRc (s_getR (pc := 91) (ci := 11) (k := 0) (idx := 10) nok11 (by decide) rfl (by decide +kernel) w_572) (gk1 hG) (gm1_0 hG)) <|
  n_c (s_gRc (s_getR (pc := 94) (ci := 1) (k := 1) (idx := 77) nok1 (by decide) rfl (by decide +kernel) w_406) (gk2 hG) (gm2_1 hG)) <|
  n_c (s_gIc (s_getI (pc := 97) (ci := 4) (k := 8) (idx := 271) nok4 (by decide) rfl (by decide +kernel) w_253) (gk9 hG)) <|
  n_c (s_iret (pc := 100) rfl (by decide +kernel)) <|
  n_c (s_aload_n (pc := 101) (k := 0) (by decide +kernel)) <|
  n_c (s_gRc (s_getR (pc := 102) (ci := 11) (k := 0) (idx := 10) nok11 (by decide) rfl (by decide +kernel) w_572) (gk1 hG) (gm1_0 hG)) <|
  n_c (s_gRc (s_getR (pc := 105) (ci := 1) (k := 1) (idx := 77) nok1 (by decide) rfl (by decide +kernel) w_406) (gk2 hG) (gm2_1 hG)) <|
  n_c (s_gIc (s_getI (pc := 108) (ci := 4) (k := 5) (idx := 145) nok4 (by decide) rfl (by decide +kernel) w_244) (gk9 hG)) <|
  n_c (s_iret (pc := 111) rfl (by decide +kernel)) <|
  n_c (s_aload_n (pc := 112) (k := 0) (by decide +kernel)) <|
  n_c (s_gRc (s_getR (pc := 113) (ci := 11) (k := 0) (idx := 10) nok11 (by decide) rfl (by decide +kernel) w_572) (gk1 hG) (gm1_0 hG)) <|
  n_c (s_gRc (s_getR (pc := 116) (ci := 1) (k := 1) (idx := 77) nok1 (by decide) rfl (by decide +kernel) w_406) (gk2 hG) (gm2_1 hG)) <|
  n_c (s_gIc (s_getI (pc := 119) (ci := 4) (k := 7) (idx := 177) nok4 (by decide) rfl (by decide +kernel) w_250) (gk9 hG)) <|
  n_c (s_iret (pc := 122) rfl (by decide +kernel)) <|
  n_c (s_aload_n (pc := 123) (k := 0) (by decide +kernel)) <|
  n_c (s_gRc (s_getR (pc := 124) (ci := 11) (k := 0) (idx := 10) nok11 (by decide) rfl (by decide +kernel) w_572) (gk1 hG) (gm1_0 hG)) <|
  n_c (s_gRc (s_getR (pc := 127) (ci := 1) (k := 1) (idx := 77) nok1 (by decide) rfl (by decide +kernel) w_406) (gk2 hG) (gm2_1 hG)) <|
  n_c (s_gIc (s_getI (pc := 130) (ci := 4) (k := 9) (idx := 183) nok4 (by decide) rfl (by decide +kernel) w_256) (gk9 hG)) <|
  n_c (s_iret (pc := 133) rfl (by decide +kernel)) <|
  n_c (s_aload_n (pc := 134) (k := 0) (by decide +kernel)) <|
  n_c (s_gRc (s_getR (pc := 135) (ci := 11) (k := 0) (idx := 10) nok11 (by decide) rfl (by decide +kernel) w_572) (gk1 hG) (gm1_0 hG)) <|
  n_c (s_gRc (s_getR (pc := 138) (ci := 1) (k := 1) (idx := 77) nok1 (by decide) rfl (by decide +kernel) w_406) (gk2 hG) (gm2_1 hG)) <|
  n_c (s_gIc (s_getI (pc := 141) (ci := 4) (k := 11) (idx := 262) nok4 (by decide) rfl (by decide +kernel) w_262) (gk9 hG)) <|
  n_c (s_iret (pc := 144) rfl (by decide +kernel)) <|
  n_c (s_aload_n (pc := 145) (k := 0) (by decide +kernel)) <|
  n_c (s_gRc (s_getR (pc := 146) (ci := 11) (k := 0) (idx := 10) nok11 (by decide) rfl (by decide +kernel) w_572) (gk1 hG) (gm1_0 hG)) <|
  n_c (s_gRc (s_getR (pc := 149) (ci := 1) (k := 1) (idx := 77) nok1 (by decide) rfl (by decide +kernel) w_406) (gk2 hG) (gm2_1 hG)) <|
  n_c (s_gIc (s_getI (pc := 152) (ci := 4) (k := 10) (idx := 80) nok4 (by decide) rfl (by decide +kernel) w_258) (gk9 hG)) <|
  n_c (s_iret (pc := 155) rfl (by decide +kernel)) <|
  n_c (s_aload_n (pc := 156) (k := 0) (by decide +kernel)) <|
  n_c (s_gRc (s_getR (pc := 157) (ci := 11) (k := 0) (idx := 10) nok11 (by decide) rfl (by decide +kernel) w_572) (gk1 hG) (gm1_0 hG)) <|
  n_c (s_gRc (s_getR (pc := 160) (ci := 1) (k := 3) (idx := 199) nok1 (by decide) rfl (by decide +kernel) w_412) (gk2 hG) (gm2_3 hG)) <|
  n_c (s_gIc (s_getI (pc := 163) (ci := 3) (k := 6) (idx := 210) nok3 (by decide) rfl (by decide +kernel) w_332) (gk16 hG)) <|
  n_c (s_iret (pc := 166) rfl (by decide +kernel)) <|
  n_c (s_aload_n (pc := 167) (k := 0) (by decide +kernel)) <|
  n_c (s_gRc (s_getR (pc := 168) (ci := 11) (k := 0) (idx := 10) nok11 (by decide) rfl (by decide +kernel) w_572) (gk1 hG) (gm1_0 hG)) <|
  n_c (s_gRc (s_getR (pc := 171) (ci := 1) (k := 4) (idx := 409) nok1 (by decide) rfl (by decide +kernel) w_415) (gk2 hG) (gm2_4 hG)) <|
  n_c (s_gIc (s_getI (pc := 174) (ci := 7) (k := 3) (idx := 226) nok7 (by decide) rfl (by decide +kernel) w_308) (gk22 hG)) <|
  n_c (s_iret (pc := 177) rfl (by decide +kernel)) <|
  n_c (s_aload_n (pc := 178) (k := 0) (by decide +kernel)) <|
  n_c (s_gRc (s_getR (pc := 179) (ci := 11) (k := 0) (idx := 10) nok11 (by decide) rfl (by decide +kernel) w_572) (gk1 hG) (gm1_0 hG)) <|
  n_c (s_gRc (s_getR (pc := 182) (ci := 1) (k := 5) (idx := 412) nok1 (by decide) rfl (by decide +kernel) w_418) (gk2 hG) (gm2_5 hG)) <|
  n_c (s_gIc (s_getI (pc := 185) (ci := 7) (k := 3) (idx := 226) nok7 (by decide) rfl (by decide +kernel) w_308) (gk24 hG)) <|
  n_c (s_iret (pc := 188) rfl (by decide +kernel)) <|
  n_c (s_aload_n (pc := 189) (k := 0) (by decide +kernel)) <|
  n_c (s_gRc (s_getR (pc := 190) (ci := 11) (k := 0) (idx := 10) nok11 (by decide) rfl (by decide +kernel) w_572) (gk1 hG) (gm1_0 hG)) <|
  n_c (s_gRc (s_getR (pc := 193) (ci := 1) (k := 6) (idx := 348) nok1 (by decide) rfl (by decide +kernel) w_420) (gk2 hG) (gm2_6 hG)) <|
  n_c (s_gIc (s_getI (pc := 196) (ci := 7) (k := 3) (idx := 226) nok7 (by decide) rfl (by decide +kernel) w_308) (gk26 hG)) <|
  n_c (s_iret (pc := 199) rfl (by decide +kernel)) <|
  n_c (s_aload_n (pc := 200) (k := 0) (by decide +kernel)) <|
  n_c (s_gRc (s_getR (pc := 201) (ci := 11) (k := 2) (idx := 28) nok11 (by decide) rfl (by decide +kernel) w_574) (gk1 hG) (gm1_2 hG)) <|
  n_c (s_gIc (s_getI (pc := 204) (ci := 5) (k := 2) (idx := 415) nok5 (by decide) rfl (by decide +kernel) w_468) (gk48 hG)) <|
  n_c (s_iret (pc := 207) rfl (by decide +kernel)) <|
  n_c (s_iconst (pc := 208) (n := -1) (by decide +kernel) (by decide +kernel)) <|
  n_c (s_iret (pc := 209) rfl (by decide +kernel)) <|
  n_e
def fX11_look (x1 : Int32) (M : nM) : Option (Int32 × nM) :=
  if x1 = (0 : Int32) then
    some ((M 3 5), M)
  else
  if x1 = (1 : Int32) then
    some ((M 3 6), M)
  else
  if x1 = (2 : Int32) then
    some ((M 9 8), M)
  else
  if x1 = (3 : Int32) then
    some ((M 9 5), M)
  else
  if x1 = (4 : Int32) then
    some ((M 9 7), M)
  else
  if x1 = (5 : Int32) then
    some ((M 9 9), M)
  else
  if x1 = (6 : Int32) then
    some ((M 9 11), M)
  else
  if x1 = (7 : Int32) then
    some ((M 9 10), M)
  else
  if x1 = (8 : Int32) then
    some ((M 16 6), M)
  else
  if x1 = (9 : Int32) then
    some ((M 22 3), M)
  else
  if x1 = (10 : Int32) then
    some ((M 24 3), M)
  else
  if x1 = (11 : Int32) then
    some ((M 26 3), M)
  else
  if x1 = (12 : Int32) then
    some ((M 48 2), M)
  else
  some ((-1 : Int32), M)
set_option maxRecDepth 200000 in
theorem bX11_look_0 {l : Launch} {w : nW} {G : nG} (hG : n_GOK G) (x1 : Int32) (M : nM) (r : Int32 × nM) (h : fX11_look x1 M = some r) : n_At l w 0 mX11_look 0 [(0, .ref 1), (1, .int x1)] [] (G, M) (dv_i r.1, (G, r.2)) :=
  n_seg (fin := n_fin dv_i G) (K := []) 71 (iX11_look hG) n_ke (by rfl) h
theorem eX11_look {l : Launch} {w : nW} {G : nG} (hG : n_GOK G) (z1 : Int32) (M : nM) (r : Int32 × nM) (h : fX11_look z1 M = some r) : n_Met l w 0 mX11_look [.ref 1, .int z1] (G, M) (dv_i r.1, (G, r.2)) :=
  n_entry (by decide +kernel) rfl (Nat.le_of_ble_eq_true rfl) (n_sub (lv := [(0, .ref 1), (1, .int z1)]) (n_qc rfl (n_qc rfl n_qe)) (bX11_look_0 hG z1 M r h))
abbrev hX11_look : nF := fun T as M k => n_pC 1 as (fun as => n_pI as (fun z1 as => n_pE as ((fX11_look z1 M).bind fun p => k (dv_i p.1) p.2)))
theorem csX11_look {l : Launch} {w : nW} {G : nG} (hG : n_GOK G) : n_CS l w 0 mX11_look G (hX11_look) := fun T as M k r h => by
  obtain ⟨t0, rfl, h1⟩ := n_pC_x h
  obtain ⟨z1, t1, rfl, h2⟩ := n_pI_x h1
  obtain ⟨rfl, hE⟩ := n_pE_x h2
  obtain ⟨p, hp, hk⟩ := Option.bind_eq_some_iff.mp hE
  exact ⟨_, _, eX11_look hG z1 M p hp, hk⟩
/-! ===== SleightHouseModel.setOf(II)I ===== -/
def mX12_setOf : nY := (RX12, yX12_setOf, cX12_setOf, 5, some .int)
theorem okX12_setOf : n_MOK mX12_setOf 2 := ⟨w_2188, w_151, ⟨by decide +kernel, by decide +kernel, by decide +kernel⟩, by decide⟩
abbrev aX12_setOf (N : Nat) : List (Nat × nO (Int32 × nM)) := [(0, o_push (.int (0 : Int32)) 1), (1, o_istore 5 3 2), (2, o_push (.int (0 : Int32)) 3), (3, o_istore 5 4 5), (5, o_iload 4 7), (7, o_iload 2 8), (8, oc_ge 37 11), (11, o_aload 0 12), (12, o_gRc 107 108 15), (15, o_iload 1 16), (16, o_iload 4 18), (18, o_iadd 19), (19, o_aldc 108 100 20), (20, o_push (.int (1 : Int32)) 21), (21, oc_ne 31 24), (24, o_iload 3 25), (25, o_push (.int (1 : Int32)) 26), (26, o_iload 4 28), (28, o_ishl 29), (29, o_ior 30), (30, o_istore 5 3 31), (31, o_inc 5 4 (1 : Int32) 34), (34, o_goto 5), (37, o_iload 3 38), (38, o_iret)]
set_option maxRecDepth 200000 in
theorem iX12_setOf {l : Launch} {w : nW} (N : Nat) {G : nG} (hG : n_GOK G) : n_AllS l w 0 mX12_setOf G (n_fin dv_i G) (aX12_setOf N) :=
  n_c (s_iconst (pc := 0) (n := 0) (by decide +kernel) (by decide +kernel)) <|
  n_c (s_istore_n (pc := 1) (k := 3) (by decide +kernel)) <|
  n_c (s_iconst (pc := 2) (n := 0) (by decide +kernel) (by decide +kernel)) <|
  n_c (s_istore (pc := 3) (by decide +kernel)) <|
  n_c (s_iload (pc := 5) (by decide +kernel)) <|
  n_c (s_iload_n (pc := 7) (k := 2) (by decide +kernel)) <|
  n_c (s_icmp_ge (pc := 8) (off := 29) (by decide +kernel) (by decide +kernel)) <|
  n_c (s_aload_n (pc := 11) (k := 0) (by decide +kernel)) <|
  n_c (s_gRc (s_getR (pc := 12) (ci := 12) (k := 1) (idx := 7) nok12 (by decide) rfl (by decide +kernel) w_1408) (gk107 hG) (gm107_1 hG)) <|
  n_c (s_iload_n (pc := 15) (k := 1) (by decide +kernel)) <|
  n_c (s_iload (pc := 16) (by decide +kernel)) <|
  n_c (s_iadd (pc := 18) (by decide +kernel)) <|
  n_c (s_aldc (s_iaload (pc := 19) (by decide +kernel)) (gk108 hG) (gl108 hG)) <|
  n_c (s_iconst (pc := 20) (n := 1) (by decide +kernel) (by decide +kernel)) <|
  n_c (s_icmp_ne (pc := 21) (off := 10) (by decide +kernel) (by decide +kernel)) <|
  n_c (s_iload_n (pc := 24) (k := 3) (by decide +kernel)) <|
  n_c (s_iconst (pc := 25) (n := 1) (by decide +kernel) (by decide +kernel)) <|
  n_c (s_iload (pc := 26) (by decide +kernel)) <|
  n_c (s_ishl (pc := 28) (by decide +kernel)) <|
  n_c (s_ior (pc := 29) (by decide +kernel)) <|
  n_c (s_istore_n (pc := 30) (k := 3) (by decide +kernel)) <|
  n_c (s_iinc (pc := 31) (n := 1) (by decide +kernel) (by decide +kernel)) <|
  n_c (s_goto (pc := 34) (off := -29) (by decide +kernel) (by decide +kernel)) <|
  n_c (s_iload_n (pc := 37) (k := 3) (by decide +kernel)) <|
  n_c (s_iret (pc := 38) rfl (by decide +kernel)) <|
  n_e
def fX12_setOf_5 (N : Nat) : Nat → Int32 → Int32 → Int32 → Int32 → nM → Option (Int32 × nM)
  | 0, _, _, _, _, _ => none
  | n + 1, x1, x2, x3, x4, M =>
    if x2 ≤ x4 then
      some (x3, M)
    else
      n_chk (n_ib 100 (x1 + x4)) <|
      if ¬ (M 108 (x1 + x4).toNatClampNeg) = (1 : Int32) then
        let v1 : Int32 := (x4 + (1 : Int32))
        fX12_setOf_5 N n x1 x2 x3 v1 M
      else
        let v2 : Int32 := (x3 ||| ((1 : Int32) <<< (x4 &&& 31)))
        let v3 : Int32 := (x4 + (1 : Int32))
        fX12_setOf_5 N n x1 x2 v2 v3 M
set_option maxRecDepth 200000 in
theorem bX12_setOf_5 {l : Launch} {w : nW} (N : Nat) {G : nG} (hG : n_GOK G) : ∀ (n : Nat) (x1 : Int32) (x2 : Int32) (x3 : Int32) (x4 : Int32) (M : nM) (r : Int32 × nM), fX12_setOf_5 N n x1 x2 x3 x4 M = some r → n_At l w 0 mX12_setOf 5 [(0, .ref 107), (1, .int x1), (2, .int x2), (3, .int x3), (4, .int x4)] [] (G, M) (dv_i r.1, (G, r.2)) := by
  intro n
  induction n with
  | zero => intro x1 x2 x3 x4 M r h; cases (show (none : Option (Int32 × nM)) = some r from h)
  | succ n ih =>
    intro x1 x2 x3 x4 M r h
    exact n_seg (fin := n_fin dv_i G) (K := [(5, fun lv st M => n_lC 107 lv 0 (n_lI lv 1 (fun x1 => n_lI lv 2 (fun x2 => n_lI lv 3 (fun x3 => n_lI lv 4 (fun x4 => n_pE st (fX12_setOf_5 N n x1 x2 x3 x4 M)))))))]) 26 (iX12_setOf N hG) (n_kc (fun lv st M r h => by
      obtain ⟨e0, h1⟩ := n_lC_x h
      obtain ⟨x1, e1, h2⟩ := n_lI_x h1
      obtain ⟨x2, e2, h3⟩ := n_lI_x h2
      obtain ⟨x3, e3, h4⟩ := n_lI_x h3
      obtain ⟨x4, e4, h5⟩ := n_lI_x h4
      obtain ⟨rfl, h6⟩ := n_pE_x h5
      exact n_sub (n_qc e0 (n_qc e1 (n_qc e2 (n_qc e3 (n_qc e4 n_qe))))) (ih x1 x2 x3 x4 M r h6)) n_ke) (by rfl) h
def fX12_setOf (N : Nat) (x1 : Int32) (x2 : Int32) (M : nM) : Option (Int32 × nM) :=
  fX12_setOf_5 N N x1 x2 (0 : Int32) (0 : Int32) M
set_option maxRecDepth 200000 in
theorem bX12_setOf_0 {l : Launch} {w : nW} (N : Nat) {G : nG} (hG : n_GOK G) (x1 : Int32) (x2 : Int32) (M : nM) (r : Int32 × nM) (h : fX12_setOf N x1 x2 M = some r) : n_At l w 0 mX12_setOf 0 [(0, .ref 107), (1, .int x1), (2, .int x2)] [] (G, M) (dv_i r.1, (G, r.2)) :=
  n_seg (fin := n_fin dv_i G) (K := [(5, fun lv st M => n_lC 107 lv 0 (n_lI lv 1 (fun x1 => n_lI lv 2 (fun x2 => n_lI lv 3 (fun x3 => n_lI lv 4 (fun x4 => n_pE st (fX12_setOf_5 N N x1 x2 x3 x4 M)))))))]) 7 (iX12_setOf N hG) (n_kc (fun lv st M r h => by
      obtain ⟨e0, h1⟩ := n_lC_x h
      obtain ⟨x1, e1, h2⟩ := n_lI_x h1
      obtain ⟨x2, e2, h3⟩ := n_lI_x h2
      obtain ⟨x3, e3, h4⟩ := n_lI_x h3
      obtain ⟨x4, e4, h5⟩ := n_lI_x h4
      obtain ⟨rfl, h6⟩ := n_pE_x h5
      exact n_sub (n_qc e0 (n_qc e1 (n_qc e2 (n_qc e3 (n_qc e4 n_qe))))) (bX12_setOf_5 N hG N x1 x2 x3 x4 M r h6)) n_ke) (by rfl) h
theorem eX12_setOf {l : Launch} {w : nW} (N : Nat) {G : nG} (hG : n_GOK G) (z1 : Int32) (z2 : Int32) (M : nM) (r : Int32 × nM) (h : fX12_setOf N z1 z2 M = some r) : n_Met l w 0 mX12_setOf [.ref 107, .int z1, .int z2] (G, M) (dv_i r.1, (G, r.2)) :=
  n_entry (by decide +kernel) rfl (Nat.le_of_ble_eq_true rfl) (n_sub (lv := [(0, .ref 107), (1, .int z1), (2, .int z2)]) (n_qc rfl (n_qc rfl (n_qc rfl n_qe))) (bX12_setOf_0 N hG z1 z2 M r h))
abbrev hX12_setOf (N : Nat) : nF := fun T as M k => n_pC 107 as (fun as => n_pI as (fun z1 as => n_pI as (fun z2 as => n_pE as ((fX12_setOf N z1 z2 M).bind fun p => k (dv_i p.1) p.2))))
theorem csX12_setOf {l : Launch} {w : nW} (N : Nat) {G : nG} (hG : n_GOK G) : n_CS l w 0 mX12_setOf G (hX12_setOf N) := fun T as M k r h => by
  obtain ⟨t0, rfl, h1⟩ := n_pC_x h
  obtain ⟨z1, t1, rfl, h2⟩ := n_pI_x h1
  obtain ⟨z2, t2, rfl, h3⟩ := n_pI_x h2
  obtain ⟨rfl, hE⟩ := n_pE_x h3
  obtain ⟨p, hp, hk⟩ := Option.bind_eq_some_iff.mp hE
  exact ⟨_, _, eX12_setOf N hG z1 z2 M p hp, hk⟩
/-! ===== SleightHouseModel.look(I)I ===== -/
def mX12_look : nY := (RX12, yX12_look, cX12_look, 2, some .int)
theorem okX12_look : n_MOK mX12_look 1 := ⟨w_2184, w_151, ⟨by decide +kernel, by decide +kernel, by decide +kernel⟩, by decide⟩
abbrev aX12_look (N : Nat) : List (Nat × nO (Int32 × nM)) := [(0, o_aload 0 1), (1, o_push (.int (0 : Int32)) 2), (2, o_pIc 107 0 5), (5, o_iload 1 6), (6, oi_ne 14 9), (9, o_aload 0 10), (10, o_gIc 107 6 13), (13, o_iret), (14, o_iload 1 15), (15, o_push (.int (1 : Int32)) 16), (16, oc_ne 24 19), (19, o_aload 0 20), (20, o_gIc 107 7 23), (23, o_iret), (24, o_iload 1 25), (25, o_push (.int (2 : Int32)) 26), (26, oc_ne 36 29), (29, o_aload 0 30), (30, o_gRc 107 108 33), (33, o_push (.int (3 : Int32)) 34), (34, o_aldc 108 100 35), (35, o_iret), (36, o_iload 1 37), (37, o_push (.int (3 : Int32)) 38), (38, oc_ne 52 41), (41, o_aload 0 42), (42, o_push (.int (60 : Int32)) 44), (44, o_aload 0 45), (45, o_gIc 107 6 48), (48, o_callVc 107 2 (hX12_setOf N) 51), (51, o_iret), (52, o_iload 1 53), (53, o_push (.int (4 : Int32)) 54), (54, oc_ne 65 57), (57, o_aload 0 58), (58, o_push (.int (4 : Int32)) 59), (59, o_push (.int (12 : Int32)) 61), (61, o_callVc 107 2 (hX12_setOf N) 64), (64, o_iret), (65, o_iload 1 66), (66, o_push (.int (5 : Int32)) 67), (67, oc_ne 77 70), (70, o_aload 0 71), (71, o_gRc 107 108 74), (74, o_push (.int (0 : Int32)) 75), (75, o_aldc 108 100 76), (76, o_iret), (77, o_iload 1 78), (78, o_push (.int (6 : Int32)) 80), (80, oc_ne 90 83), (83, o_aload 0 84), (84, o_gRc 107 108 87), (87, o_push (.int (2 : Int32)) 88), (88, o_aldc 108 100 89), (89, o_iret), (90, o_iload 1 91), (91, o_push (.int (7 : Int32)) 93), (93, oc_ne 103 96), (96, o_aload 0 97), (97, o_gRc 107 108 100), (100, o_push (.int (1 : Int32)) 101), (101, o_aldc 108 100 102), (102, o_iret), (103, o_iload 1 104), (104, o_push (.int (8 : Int32)) 106), (106, oc_ne 116 109), (109, o_aload 0 110), (110, o_gRc 107 119 113), (113, o_push (.int (0 : Int32)) 114), (114, o_aldc 119 2 115), (115, o_iret), (116, o_iload 1 117), (117, o_push (.int (9 : Int32)) 119), (119, oc_ne 127 122), (122, o_aload 0 123), (123, o_gIc 107 37 126), (126, o_iret), (127, o_iload 1 128), (128, o_push (.int (10 : Int32)) 130), (130, oc_ne 138 133), (133, o_aload 0 134), (134, o_gIc 107 39 137), (137, o_iret), (138, o_iload 1 139), (139, o_push (.int (11 : Int32)) 141), (141, oc_ne 149 144), (144, o_aload 0 145), (145, o_gIc 107 41 148), (148, o_iret), (149, o_iload 1 150), (150, o_push (.int (12 : Int32)) 152), (152, oc_ne 162 155), (155, o_aload 0 156), (156, o_gIc 107 3 159), (159, o_goto 163), (162, o_push (.int (-1 : Int32)) 163), (163, o_iret)]
set_option maxRecDepth 200000 in
theorem iX12_look {l : Launch} {w : nW} (N : Nat) {G : nG} (hG : n_GOK G) : n_AllS l w 1 mX12_look G (n_fin dv_i G) (aX12_look N) :=
  n_c (s_aload_n (pc := 0) (k := 0) (by decide +kernel)) <|
  n_c (s_iconst (pc := 1) (n := 0) (by decide +kernel) (by decide +kernel)) <|
  n_c (s_pIc (s_putI (pc := 2) (ci := 12) (k := 0) (idx := 146) nok12 (by decide) rfl rfl (by decide +kernel) w_1407) (gk107 hG)) <|
  n_c (s_iload_n (pc := 5) (k := 1) (by decide +kernel)) <|
  n_c (s_if_ne (pc := 6) (off := 8) (by decide +kernel) (by decide +kernel)) <|
  n_c (s_aload_n (pc := 9) (k := 0) (by decide +kernel)) <|
  n_c (s_gIc (s_getI (pc := 10) (ci := 12) (k := 6) (idx := 158) nok12 (by decide) rfl (by decide +kernel) w_1413) (gk107 hG)) <|
  n_c (s_iret (pc := 13) rfl (by decide +kernel)) <|
  n_c (s_iload_n (pc := 14) (k := 1) (by decide +kernel)) <|
  n_c (s_iconst (pc := 15) (n := 1) (by decide +kernel) (by decide +kernel)) <|
  n_c (s_icmp_ne (pc := 16) (off := 8) (by decide +kernel) (by decide +kernel)) <|
  n_c (s_aload_n (pc := 19) (k := 0) (by decide +kernel)) <|
  n_c (s_gIc (s_getI (pc := 20) (ci := 12) (k := 7) (idx := 161) nok12 (by decide) rfl (by decide +kernel) w_1414) (gk107 hG)) <|
  n_c (s_iret (pc := 23) rfl (by decide +kernel)) <|
  n_c (s_iload_n (pc := 24) (k := 1) (by decide +kernel)) <|
  n_c (s_iconst (pc := 25) (n := 2) (by decide +kernel) (by decide +kernel)) <|
  n_c (s_icmp_ne (pc := 26) (off := 10) (by decide +kernel) (by decide +kernel)) <|
  n_c (s_aload_n (pc := 29) (k := 0) (by decide +kernel)) <|
  n_c (s_gRc (s_getR (pc := 30) (ci := 12) (k := 1) (idx := 7) nok12 (by decide) rfl (by decide +kernel) w_1408) (gk107 hG) (gm107_1 hG)) <|
  n_c (s_iconst (pc := 33) (n := 3) (by decide +kernel) (by decide +kernel)) <|
  n_c (s_aldc (s_iaload (pc := 34) (by decide +kernel)) (gk108 hG) (gl108 hG)) <|
  n_c (s_iret (pc := 35) rfl (by decide +kernel)) <|
  n_c (s_iload_n (pc := 36) (k := 1) (by decide +kernel)) <|
  n_c (s_iconst (pc := 37) (n := 3) (by decide +kernel) (by decide +kernel)) <|
  n_c (s_icmp_ne (pc := 38) (off := 14) (by decide +kernel) (by decide +kernel)) <|
  n_c (s_aload_n (pc := 41) (k := 0) (by decide +kernel)) <|
  n_c (s_bipush (pc := 42) (n := 60) (by decide +kernel) (by decide +kernel)) <|
  n_c (s_aload_n (pc := 44) (k := 0) (by decide +kernel)) <|
  n_c (s_gIc (s_getI (pc := 45) (ci := 12) (k := 6) (idx := 158) nok12 (by decide) rfl (by decide +kernel) w_1413) (gk107 hG)) <|
  n_c (s_callVc (s_callV (pc := 48) (csX12_setOf N hG) (by decide) okX12_setOf nok12 w_2187 w_135 w_2185 (by decide +kernel)) (gk107 hG)) <|
  n_c (s_iret (pc := 51) rfl (by decide +kernel)) <|
  n_c (s_iload_n (pc := 52) (k := 1) (by decide +kernel)) <|
  n_c (s_iconst (pc := 53) (n := 4) (by decide +kernel) (by decide +kernel)) <|
  n_c (s_icmp_ne (pc := 54) (off := 11) (by decide +kernel) (by decide +kernel)) <|
  n_c (s_aload_n (pc := 57) (k := 0) (by decide +kernel)) <|
  n_c (s_iconst (pc := 58) (n := 4) (by decide +kernel) (by decide +kernel)) <|
  n_c (s_bipush (pc := 59) (n := 12) (by decide +kernel) (by decide +kernel)) <|
  n_c (s_callVc (s_callV (pc := 61) (csX12_setOf N hG) (by decide) okX12_setOf nok12 w_2187 w_135 w_2185 (by decide +kernel)) (gk107 hG)) <|
  n_c (s_iret (pc := 64) rfl (by decide +kernel)) <|
  n_c (s_iload_n (pc := 65) (k := 1) (by decide +kernel)) <|
  n_c (s_iconst (pc := 66) (n := 5) (by decide +kernel) (by decide +kernel)) <|
  n_c (s_icmp_ne (pc := 67) (off := 10) (by decide +kernel) (by decide +kernel)) <|
  n_c (s_aload_n (pc := 70) (k := 0) (by decide +kernel)) <|
  n_c (s_gRc (s_getR (pc := 71) (ci := 12) (k := 1) (idx := 7) nok12 (by decide) rfl (by decide +kernel) w_1408) (gk107 hG) (gm107_1 hG)) <|
  n_c (s_iconst (pc := 74) (n := 0) (by decide +kernel) (by decide +kernel)) <|
  n_c (s_aldc (s_iaload (pc := 75) (by decide +kernel)) (gk108 hG) (gl108 hG)) <|
  n_c (s_iret (pc := 76) rfl (by decide +kernel)) <|
  n_c (s_iload_n (pc := 77) (k := 1) (by decide +kernel)) <|
  n_c (s_bipush (pc := 78) (n := 6) (by decide +kernel) (by decide +kernel)) <|
  n_c (s_icmp_ne (pc := 80) (off := 10) (by decide +kernel) (by decide +kernel)) <|
  n_c (s_aload_n (pc := 83) (k := 0) (by decide +kernel)) <|
  n_c (s_gRc (s_getR (pc := 84) (ci := 12) (k := 1) (idx := 7) nok12 (by decide) rfl (by decide +kernel) w_1408) (gk107 hG) (gm107_1 hG)) <|
  n_c (s_iconst (pc := 87) (n := 2) (by decide +kernel) (by decide +kernel)) <|
  n_c (s_aldc (s_iaload (pc := 88) (by decide +kernel)) (gk108 hG) (gl108 hG)) <|
  n_c (s_iret (pc := 89) rfl (by decide +kernel)) <|
  n_c (s_iload_n (pc := 90) (k := 1) (by decide +kernel)) <|
  n_c (s_bipush (pc := 91) (n := 7) (by decide +kernel) (by decide +kernel)) <|
  n_c (s_icmp_ne (pc := 93) (off := 10) (by decide +kernel) (by decide +kernel)) <|
  n_c (s_aload_n (pc := 96) (k := 0) (by decide +kernel)) <|
  n_c (s_gRc (s_getR (pc := 97) (ci := 12) (k := 1) (idx := 7) nok12 (by decide) rfl (by decide +kernel) w_1408) (gk107 hG) (gm107_1 hG)) <|
  n_c (s_iconst (pc := 100) (n := 1) (by decide +kernel) (by decide +kernel)) <|
  n_c (s_aldc (s_iaload (pc := 101) (by decide +kernel)) (gk108 hG) (gl108 hG)) <|
  n_c (s_iret (pc := 102) rfl (by decide +kernel)) <|
  n_c (s_iload_n (pc := 103) (k := 1) (by decide +kernel)) <|
  n_c (s_bipush (pc := 104) (n := 8) (by decide +kernel) (by decide +kernel)) <|
  n_c (s_icmp_ne (pc := 106) (off := 10) (by decide +kernel) (by decide +kernel)) <|
  n_c (s_aload_n (pc := 109) (k := 0) (by decide +kernel)) <|
  n_c (s_gRc (s_getR (pc := 110) (ci := 12) (k := 21) (idx := 43) nok12 (by decide) rfl (by decide +kernel) w_1428) (gk107 hG) (gm107_21 hG)) <|
  n_c (s_iconst (pc := 113) (n := 0) (by decide +kernel) (by decide +kernel)) <|
  n_c (s_aldc (s_iaload (pc := 114) (by decide +kernel)) (gk119 hG) (gl119 hG)) <|
  n_c (s_iret (pc := 115) rfl (by decide +kernel)) <|
  n_c (s_iload_n (pc := 116) (k := 1) (by decide +kernel)) <|
  n_c (s_bipush (pc := 117) (n := 9) (by decide +kernel) (by decide +kernel)) <|
  n_c (s_icmp_ne (pc := 119) (off := 8) (by decide +kernel) (by decide +kernel)) <|
  n_c (s_aload_n (pc := 122) (k := 0) (by decide +kernel)) <|
  n_c (s_gIc (s_getI (pc := 123) (ci := 12) (k := 37) (idx := 323) nok12 (by decide) rfl (by decide +kernel) w_1444) (gk107 hG)) <|
  n_c (s_iret (pc := 126) rfl (by decide +kernel)) <|
  n_c (s_iload_n (pc := 127) (k := 1) (by decide +kernel)) <|
  n_c (s_bipush (pc := 128) (n := 10) (by decide +kernel) (by decide +kernel)) <|
  n_c (s_icmp_ne (pc := 130) (off := 8) (by decide +kernel) (by decide +kernel)) <|
  n_c (s_aload_n (pc := 133) (k := 0) (by decide +kernel)) <|
  n_c (s_gIc (s_getI (pc := 134) (ci := 12) (k := 39) (idx := 326) nok12 (by decide) rfl (by decide +kernel) w_1446) (gk107 hG)) <|
  n_c (s_iret (pc := 137) rfl (by decide +kernel)) <|
  n_c (s_iload_n (pc := 138) (k := 1) (by decide +kernel)) <|
  n_c (s_bipush (pc := 139) (n := 11) (by decide +kernel) (by decide +kernel)) <|
  n_c (s_icmp_ne (pc := 141) (off := 8) (by decide +kernel) (by decide +kernel)) <|
  n_c (s_aload_n (pc := 144) (k := 0) (by decide +kernel)) <|
  n_c (s_gIc (s_getI (pc := 145) (ci := 12) (k := 41) (idx := 320) nok12 (by decide) rfl (by decide +kernel) w_1448) (gk107 hG)) <|
  n_c (s_iret (pc := 148) rfl (by decide +kernel)) <|
  n_c (s_iload_n (pc := 149) (k := 1) (by decide +kernel)) <|
  n_c (s_bipush (pc := 150) (n := 12) (by decide +kernel) (by decide +kernel)) <|
  n_c (s_icmp_ne (pc := 152) (off := 10) (by decide +kernel) (by decide +kernel)) <|
  n_c (s_aload_n (pc := 155) (k := 0) (by decide +kernel)) <|
  n_c (s_gIc (s_getI (pc := 156) (ci := 12) (k := 3) (idx := 149) nok12 (by decide) rfl (by decide +kernel) w_1410) (gk107 hG)) <|
  n_c (s_goto (pc := 159) (off := 4) (by decide +kernel) (by decide +kernel)) <|
  n_c (s_iconst (pc := 162) (n := -1) (by decide +kernel) (by decide +kernel)) <|
  n_c (s_iret (pc := 163) rfl (by decide +kernel)) <|
  n_e
def fX12_look (N : Nat) (x1 : Int32) (M : nM) : Option (Int32 × nM) :=
  let M1 : nM := n_up M 107 0 (0 : Int32)
  if ¬ x1 = 0 then
    if ¬ x1 = (1 : Int32) then
      if ¬ x1 = (2 : Int32) then
        if ¬ x1 = (3 : Int32) then
          if ¬ x1 = (4 : Int32) then
            if ¬ x1 = (5 : Int32) then
              if ¬ x1 = (6 : Int32) then
                if ¬ x1 = (7 : Int32) then
                  if ¬ x1 = (8 : Int32) then
                    if ¬ x1 = (9 : Int32) then
                      if ¬ x1 = (10 : Int32) then
                        if ¬ x1 = (11 : Int32) then
                          if ¬ x1 = (12 : Int32) then
                            some ((-1 : Int32), M1)
                          else
                            some ((M1 107 3), M1)
                        else
                          some ((M1 107 41), M1)
                      else
                        some ((M1 107 39), M1)
                    else
                      some ((M1 107 37), M1)
                  else
                    n_chk (n_ib 2 (0 : Int32)) <|
                    some ((M1 119 (0 : Int32).toNatClampNeg), M1)
                else
                  n_chk (n_ib 100 (1 : Int32)) <|
                  some ((M1 108 (1 : Int32).toNatClampNeg), M1)
              else
                n_chk (n_ib 100 (2 : Int32)) <|
                some ((M1 108 (2 : Int32).toNatClampNeg), M1)
            else
              n_chk (n_ib 100 (0 : Int32)) <|
              some ((M1 108 (0 : Int32).toNatClampNeg), M1)
          else
            (fX12_setOf N (4 : Int32) (12 : Int32) M1).bind fun p2 =>
            some (p2.1, p2.2)
        else
          (fX12_setOf N (60 : Int32) (M1 107 6) M1).bind fun p3 =>
          some (p3.1, p3.2)
      else
        n_chk (n_ib 100 (3 : Int32)) <|
        some ((M1 108 (3 : Int32).toNatClampNeg), M1)
    else
      some ((M1 107 7), M1)
  else
    some ((M1 107 6), M1)
set_option maxRecDepth 200000 in
theorem bX12_look_0 {l : Launch} {w : nW} (N : Nat) {G : nG} (hG : n_GOK G) (x1 : Int32) (M : nM) (r : Int32 × nM) (h : fX12_look N x1 M = some r) : n_At l w 1 mX12_look 0 [(0, .ref 107), (1, .int x1)] [] (G, M) (dv_i r.1, (G, r.2)) :=
  n_seg (fin := n_fin dv_i G) (K := []) 101 (iX12_look N hG) n_ke (by rfl) h
theorem eX12_look {l : Launch} {w : nW} (N : Nat) {G : nG} (hG : n_GOK G) (z1 : Int32) (M : nM) (r : Int32 × nM) (h : fX12_look N z1 M = some r) : n_Met l w 1 mX12_look [.ref 107, .int z1] (G, M) (dv_i r.1, (G, r.2)) :=
  n_entry (by decide +kernel) rfl (Nat.le_of_ble_eq_true rfl) (n_sub (lv := [(0, .ref 107), (1, .int z1)]) (n_qc rfl (n_qc rfl n_qe)) (bX12_look_0 N hG z1 M r h))
abbrev hX12_look (N : Nat) : nF := fun T as M k => n_pC 107 as (fun as => n_pI as (fun z1 as => n_pE as ((fX12_look N z1 M).bind fun p => k (dv_i p.1) p.2)))
theorem csX12_look {l : Launch} {w : nW} (N : Nat) {G : nG} (hG : n_GOK G) : n_CS l w 1 mX12_look G (hX12_look N) := fun T as M k r h => by
  obtain ⟨t0, rfl, h1⟩ := n_pC_x h
  obtain ⟨z1, t1, rfl, h2⟩ := n_pI_x h1
  obtain ⟨rfl, hE⟩ := n_pE_x h2
  obtain ⟨p, hp, hk⟩ := Option.bind_eq_some_iff.mp hE
  exact ⟨_, _, eX12_look N hG z1 M p hp, hk⟩
