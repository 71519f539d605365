/-! ===== words of image ===== -/
theorem w_1378 : Jvm.Cond.code ({ cls := "SleightHouse", name := "image", desc := "(Z)Z" } : Jvm.MethodName) prog_1_method_49_code (2 : Nat) (Option.some Jvm.ClassFile.FieldType.boolean) ∈ lw_good := lw_good_in 1378 (by decide +kernel) (by decide +kernel)
theorem w_1379 : Jvm.Cond.methodLink "SleightHouse" (404 : Nat) ({ cls := "SleightHouse$House", name := "copyFrom", desc := "(LSleightHouse$House;)V" } : Jvm.MethodName) ∈ lw_good := lw_good_in 1379 (by decide +kernel) (by decide +kernel)
theorem w_1380 : Jvm.Cond.instanceMethod ({ cls := "SleightHouse$House", name := "copyFrom", desc := "(LSleightHouse$House;)V" } : Jvm.MethodName) ∈ lw_good := lw_good_in 1380 (by decide +kernel) (by decide +kernel)
theorem w_1381 : Jvm.Cond.selects "SleightHouse$House" ({ cls := "SleightHouse$House", name := "copyFrom", desc := "(LSleightHouse$House;)V" } : Jvm.MethodName) ({ cls := "SleightHouse$House", name := "copyFrom", desc := "(LSleightHouse$House;)V" } : Jvm.MethodName) ∈ lw_good := lw_good_in 1381 (by decide +kernel) (by decide +kernel)
/-! ===== SleightHouse.image(Z)Z ===== -/
def mX11_image : nY := (RX11, yX11_image, cX11_image, 2, some .boolean)
theorem okX11_image : n_MOK mX11_image 1 := ⟨w_1378, w_137, ⟨by decide +kernel, by decide +kernel, by decide +kernel⟩, by decide⟩
noncomputable abbrev aX11_image_0 (N : Nat) : List (Nat × nD (Int32 × nH)) := [(0, o_up (fun G => o_iload 1 1)), (1, o_up (fun G => oi_eq 35 4)), (4, o_up (fun G => o_aload 0 5)), (5, o_up (fun G => o_getR G 11 7 8)), (8, o_up (fun G => o_nn 22 11)), (11, o_up (fun G => o_aload 0 12)), (12, o_new 1 8 15), (15, o_up (fun G => o_dup 16)), (16, o_callI 0 (hX1_init N) 19), (19, o_putR 11 7 22), (22, o_up (fun G => o_aload 0 23)), (23, o_up (fun G => o_getR G 11 7 26)), (26, o_up (fun G => o_aload 0 27)), (27, o_up (fun G => o_getR G 11 0 30)), (30, o_up (fun G => o_callV G 1 1 (hX1_copyFrom G) 33)), (33, o_up (fun G => o_push (.int (1 : Int32)) 34)), (34, o_zretd), (35, o_up (fun G => o_aload 0 36)), (36, o_up (fun G => o_getR G 11 7 39)), (39, o_up (fun G => o_nn 44 42)), (42, o_up (fun G => o_push (.int (0 : Int32)) 43)), (43, o_zretd), (44, o_up (fun G => o_aload 0 45)), (45, o_up (fun G => o_getR G 11 0 48)), (48, o_up (fun G => o_aload 0 49)), (49, o_up (fun G => o_getR G 11 7 52)), (52, o_up (fun G => o_callV G 1 1 (hX1_copyFrom G) 55)), (55, o_up (fun G => o_aload 0 56)), (56, o_up (fun G => o_getR G 11 2 59)), (59, o_upG (fun G => o_callV G 5 0 (hX5_forget) 62)), (62, o_up (fun G => o_push (.int (1 : Int32)) 63)), (63, o_zretd)]
set_option maxRecDepth 200000 in
theorem iX11_image_0 {l : Launch} {w : nW} (N : Nat) : n_AllD l w 3 mX11_image (fun r => (dv_i r.1, r.2)) (aX11_image_0 N) :=
  n_cd (s_up fun G => s_iload_n (pc := 0) (k := 1) (by decide +kernel)) <|
  n_cd (s_up fun G => s_if_eq (pc := 1) (off := 34) (by decide +kernel) (by decide +kernel)) <|
  n_cd (s_up fun G => s_aload_n (pc := 4) (k := 0) (by decide +kernel)) <|
  n_cd (s_up fun G => s_getR (pc := 5) (ci := 11) (k := 7) (idx := 74) nok11 (by decide) rfl (by decide +kernel) w_579) <|
  n_cd (s_up fun G => s_nn (pc := 8) (off := 14) (by decide +kernel) (by decide +kernel)) <|
  n_cd (s_up fun G => s_aload_n (pc := 11) (k := 0) (by decide +kernel)) <|
  n_cd (s_new (pc := 12) nok1 ndf1 w_167 w_168 w_138 (by decide +kernel)) <|
  n_cd (s_up fun G => s_dup (pc := 15) (by decide +kernel)) <|
  n_cd (s_callIN (pc := 16) (idx := 9) (host := RX11) (csX1_init N) (by decide) okX1_init rfl rfl w_170 (by decide +kernel) (by decide +kernel)) <|
  n_cd (s_putR (pc := 19) (ci := 11) (k := 7) (idx := 74) nok11 (by decide) rfl rfl (by decide +kernel) w_579) <|
  n_cd (s_up fun G => s_aload_n (pc := 22) (k := 0) (by decide +kernel)) <|
  n_cd (s_up fun G => s_getR (pc := 23) (ci := 11) (k := 7) (idx := 74) nok11 (by decide) rfl (by decide +kernel) w_579) <|
  n_cd (s_up fun G => s_aload_n (pc := 26) (k := 0) (by decide +kernel)) <|
  n_cd (s_up fun G => s_getR (pc := 27) (ci := 11) (k := 0) (idx := 10) nok11 (by decide) rfl (by decide +kernel) w_572) <|
  n_cd (s_up fun G => s_callV (pc := 30) (csX1_copyFrom) (by decide) okX1_copyFrom nok1 w_1380 w_1381 w_1379 (by decide +kernel)) <|
  n_cd (s_up fun G => s_iconst (pc := 33) (n := 1) (by decide +kernel) (by decide +kernel)) <|
  n_cd (s_zretd (pc := 34) rfl (by decide +kernel)) <|
  n_cd (s_up fun G => s_aload_n (pc := 35) (k := 0) (by decide +kernel)) <|
  n_cd (s_up fun G => s_getR (pc := 36) (ci := 11) (k := 7) (idx := 74) nok11 (by decide) rfl (by decide +kernel) w_579) <|
  n_cd (s_up fun G => s_nn (pc := 39) (off := 5) (by decide +kernel) (by decide +kernel)) <|
  n_cd (s_up fun G => s_iconst (pc := 42) (n := 0) (by decide +kernel) (by decide +kernel)) <|
  n_cd (s_zretd (pc := 43) rfl (by decide +kernel)) <|
  n_cd (s_up fun G => s_aload_n (pc := 44) (k := 0) (by decide +kernel)) <|
  n_cd (s_up fun G => s_getR (pc := 45) (ci := 11) (k := 0) (idx := 10) nok11 (by decide) rfl (by decide +kernel) w_572) <|
  n_cd (s_up fun G => s_aload_n (pc := 48) (k := 0) (by decide +kernel)) <|
  n_cd (s_up fun G => s_getR (pc := 49) (ci := 11) (k := 7) (idx := 74) nok11 (by decide) rfl (by decide +kernel) w_579) <|
  n_cd (s_up fun G => s_callV (pc := 52) (csX1_copyFrom) (by decide) okX1_copyFrom nok1 w_1380 w_1381 w_1379 (by decide +kernel)) <|
  n_cd (s_up fun G => s_aload_n (pc := 55) (k := 0) (by decide +kernel)) <|
  n_cd (s_up fun G => s_getR (pc := 56) (ci := 11) (k := 2) (idx := 28) nok11 (by decide) rfl (by decide +kernel) w_574) <|
  n_cd (s_upG fun G hG => s_callV (pc := 59) (csX5_forget hG) (by decide) okX5_forget nok5 w_602 w_603 w_601 (by decide +kernel)) <|
  n_cd (s_up fun G => s_iconst (pc := 62) (n := 1) (by decide +kernel) (by decide +kernel)) <|
  n_cd (s_zretd (pc := 63) rfl (by decide +kernel)) <|
  n_ed
noncomputable abbrev aX11_image (N : Nat) : List (Nat × nD (Int32 × nH)) := aX11_image_0 N
theorem iX11_image {l : Launch} {w : nW} (N : Nat) : n_AllD l w 3 mX11_image (fun r => (dv_i r.1, r.2)) (aX11_image N) := (iX11_image_0 N)
noncomputable def fX11_image_22 (N : Nat) (x0 : Nat) (hh : nH) : Option (Int32 × nH) :=
  n_chk (Nat.beq (n_kd hh.1 x0) 11) <|
  let a1 : Nat := n_mr hh.1 x0 7
  n_chk (Nat.beq (n_kd hh.1 x0) 11) <|
  let a2 : Nat := n_mr hh.1 x0 0
  n_chk (Nat.beq (n_kd hh.1 a1) 1 && true) <|
  (fX1_copyFrom hh.1 a1 a2 hh.2).bind fun p3 =>
  let h4 : nH := (hh.1, p3.2)
  some ((1 : Int32), h4)
set_option maxRecDepth 200000 in
theorem bX11_image_22 {l : Launch} {w : nW} (N : Nat) (x0 : Nat) (hh : nH) (r : Int32 × nH) (h : fX11_image_22 N x0 hh = some r) : n_At l w 3 mX11_image 22 [(0, .ref x0)] [] hh (dv_i r.1, r.2) :=
  n_segd (K := []) (fin := fun r => (dv_i r.1, r.2)) 10 (iX11_image N) n_ked (by rfl) h
noncomputable def fX11_image (N : Nat) (x0 : Nat) (x1 : Int32) (hh : nH) : Option (Int32 × nH) :=
  if x1 = 0 then
    n_chk (Nat.beq (n_kd hh.1 x0) 11) <|
    let a1 : Nat := n_mr hh.1 x0 7
    if a1 = 0 then
      some ((0 : Int32), hh)
    else
      n_chk (Nat.beq (n_kd hh.1 x0) 11) <|
      let a2 : Nat := n_mr hh.1 x0 0
      n_chk (Nat.beq (n_kd hh.1 x0) 11) <|
      let a3 : Nat := n_mr hh.1 x0 7
      n_chk (Nat.beq (n_kd hh.1 a2) 1 && true) <|
      (fX1_copyFrom hh.1 a2 a3 hh.2).bind fun p4 =>
      let h5 : nH := (hh.1, p4.2)
      n_chk (Nat.beq (n_kd h5.1 x0) 11) <|
      let a6 : Nat := n_mr h5.1 x0 2
      n_ig h5.1 <|
      n_chk (Nat.beq (n_kd h5.1 a6) 5 && true) <|
      n_ck (Nat.beq a6 48) <|
      (fX5_forget h5.2).bind fun p7 =>
      let h8 : nH := (h5.1, p7.2)
      some ((1 : Int32), h8)
  else
    n_chk (Nat.beq (n_kd hh.1 x0) 11) <|
    let a9 : Nat := n_mr hh.1 x0 7
    if a9 = 0 then
      let a10 : Nat := n_n hh.1 + 1
      let h11 : nH := n_alloc hh 1 8
      n_chk (Nat.blt 0 a10) <|
      (fX1_init N a10 h11).bind fun p12 =>
      n_chk (Nat.beq (n_kd p12.2.1 x0) 11) <|
      let h13 : nH := n_upR p12.2 x0 7 a10
      fX11_image_22 N x0 h13
    else
      fX11_image_22 N x0 hh
set_option maxRecDepth 200000 in
theorem bX11_image_0 {l : Launch} {w : nW} (N : Nat) (x0 : Nat) (x1 : Int32) (hh : nH) (r : Int32 × nH) (h : fX11_image N x0 x1 hh = some r) : n_At l w 3 mX11_image 0 [(0, .ref x0), (1, .int x1)] [] hh (dv_i r.1, r.2) :=
  n_segd (K := [(22, fun lv st hh => n_lR lv 0 (fun x0 => n_pE st (fX11_image_22 N x0 hh)))]) (fin := fun r => (dv_i r.1, r.2)) 28 (iX11_image N) (n_kcd (fun lv st hh r h => by
      obtain ⟨x0, e0, h1⟩ := n_lR_x h
      obtain ⟨rfl, h2⟩ := n_pE_x h1
      exact n_sub (n_qc e0 n_qe) (bX11_image_22 N x0 hh r h2)) n_ked) (by rfl) h
theorem eX11_image {l : Launch} {w : nW} (N : Nat) (z0 : Nat) (z1 : Int32) (hh : nH) (r : Int32 × nH) (h : fX11_image N z0 z1 hh = some r) : n_Met l w 3 mX11_image [.ref z0, .int z1] hh (dv_i r.1, r.2) :=
  n_entry (by decide +kernel) rfl (Nat.le_of_ble_eq_true rfl) (n_sub (lv := [(0, .ref z0), (1, .int z1)]) (n_qc rfl (n_qc rfl n_qe)) (bX11_image_0 N z0 z1 hh r h))
noncomputable abbrev hX11_image (N : Nat) : nFd := fun T as hh k => n_pR as (fun z0 as => n_pI as (fun z1 as => n_pE as ((fX11_image N z0 z1 hh).bind fun p => k (dv_i p.1) p.2)))
theorem csX11_image {l : Launch} {w : nW} (N : Nat) : n_CSd l w 3 mX11_image (hX11_image N) := fun T as hh k r h => by
  obtain ⟨z0, t0, rfl, h1⟩ := n_pR_x h
  obtain ⟨z1, t1, rfl, h2⟩ := n_pI_x h1
  obtain ⟨rfl, hE⟩ := n_pE_x h2
  obtain ⟨p, hp, hk⟩ := Option.bind_eq_some_iff.mp hE
  exact ⟨_, _, eX11_image N z0 z1 hh p hp, hk⟩
