/-! ===== SleightHouse$Stock.<init>()V ===== -/
def mX8_init : nY := (RX8, yX8_init, cX8_init, 1, none)
theorem okX8_init : n_MOK mX8_init 0 := ⟨w_177, w_139, ⟨by decide +kernel, by decide +kernel, by decide +kernel⟩, by decide⟩
abbrev aX8_init_0 (N : Nat) : List (Nat × nD (Unit × nH)) := [(0, o_up (fun G => o_aload 0 1)), (1, o_up (fun G => o_objI 4)), (4, o_up (fun G => o_aload 0 5)), (5, o_up (fun G => o_push (.int (12 : Int32)) 7)), (7, o_newa 14 4 9), (9, o_putR 8 0 12), (12, o_up (fun G => o_aload 0 13)), (13, o_up (fun G => o_push (.int (16 : Int32)) 15)), (15, o_newa 14 4 17), (17, o_putR 8 1 20), (20, o_up (fun G => o_aload 0 21)), (21, o_up (fun G => o_push (.int (16 : Int32)) 23)), (23, o_newa 14 4 25), (25, o_putR 8 2 28), (28, o_up (fun G => o_aload 0 29)), (29, o_up (fun G => o_push (.int (12 : Int32)) 31)), (31, o_newa 14 4 33), (33, o_putR 8 3 36), (36, o_up (fun G => o_aload 0 37)), (37, o_up (fun G => o_push (.int (12 : Int32)) 39)), (39, o_newa 14 4 41), (41, o_putR 8 4 44), (44, o_up (fun G => o_aload 0 45)), (45, o_up (fun G => o_push (.int (0 : Int32)) 46)), (46, o_up (fun G => o_putI G 8 5 49)), (49, o_up (fun G => o_aload 0 50)), (50, o_up (fun G => o_push (.int (0 : Int32)) 51)), (51, o_up (fun G => o_putI G 8 6 54)), (54, o_up (fun G => o_aload 0 55)), (55, o_up (fun G => o_getR G 8 0 58)), (58, o_up (fun G => o_push (.int (9 : Int32)) 60)), (60, o_up (fun G => o_call 2 (hJ7_fill_53178 N G) 63)), (63, o_vretd)]
set_option maxRecDepth 200000 in
theorem iX8_init_0 {l : Launch} {w : nW} (N : Nat) : n_AllD l w 1 mX8_init (fun r => (dv_v r.1, r.2)) (aX8_init_0 N) :=
  n_cd (s_up fun G => s_aload_n (pc := 0) (k := 0) (by decide +kernel)) <|
  n_cd (s_up fun G => s_objI (pc := 1) w_178 w_165 w_166 (by decide +kernel)) <|
  n_cd (s_up fun G => s_aload_n (pc := 4) (k := 0) (by decide +kernel)) <|
  n_cd (s_up fun G => s_bipush (pc := 5) (n := 12) (by decide +kernel) (by decide +kernel)) <|
  n_cd (s_newI (pc := 7) w_221 (by decide +kernel)) <|
  n_cd (s_putRF (pc := 9) (ci := 8) (k := 0) (idx := 9) nok8 (by decide) rfl rfl rfl rfl (by decide +kernel) w_182) <|
  n_cd (s_up fun G => s_aload_n (pc := 12) (k := 0) (by decide +kernel)) <|
  n_cd (s_up fun G => s_bipush (pc := 13) (n := 16) (by decide +kernel) (by decide +kernel)) <|
  n_cd (s_newI (pc := 15) w_221 (by decide +kernel)) <|
  n_cd (s_putRF (pc := 17) (ci := 8) (k := 1) (idx := 15) nok8 (by decide) rfl rfl rfl rfl (by decide +kernel) w_185) <|
  n_cd (s_up fun G => s_aload_n (pc := 20) (k := 0) (by decide +kernel)) <|
  n_cd (s_up fun G => s_bipush (pc := 21) (n := 16) (by decide +kernel) (by decide +kernel)) <|
  n_cd (s_newI (pc := 23) w_221 (by decide +kernel)) <|
  n_cd (s_putRF (pc := 25) (ci := 8) (k := 2) (idx := 18) nok8 (by decide) rfl rfl rfl rfl (by decide +kernel) w_188) <|
  n_cd (s_up fun G => s_aload_n (pc := 28) (k := 0) (by decide +kernel)) <|
  n_cd (s_up fun G => s_bipush (pc := 29) (n := 12) (by decide +kernel) (by decide +kernel)) <|
  n_cd (s_newI (pc := 31) w_221 (by decide +kernel)) <|
  n_cd (s_putRF (pc := 33) (ci := 8) (k := 3) (idx := 21) nok8 (by decide) rfl rfl rfl rfl (by decide +kernel) w_191) <|
  n_cd (s_up fun G => s_aload_n (pc := 36) (k := 0) (by decide +kernel)) <|
  n_cd (s_up fun G => s_bipush (pc := 37) (n := 12) (by decide +kernel) (by decide +kernel)) <|
  n_cd (s_newI (pc := 39) w_221 (by decide +kernel)) <|
  n_cd (s_putRF (pc := 41) (ci := 8) (k := 4) (idx := 24) nok8 (by decide) rfl rfl rfl rfl (by decide +kernel) w_194) <|
  n_cd (s_up fun G => s_aload_n (pc := 44) (k := 0) (by decide +kernel)) <|
  n_cd (s_up fun G => s_iconst (pc := 45) (n := 0) (by decide +kernel) (by decide +kernel)) <|
  n_cd (s_up fun G => s_putI (pc := 46) (ci := 8) (k := 5) (idx := 27) nok8 (by decide) rfl rfl (by decide +kernel) w_197) <|
  n_cd (s_up fun G => s_aload_n (pc := 49) (k := 0) (by decide +kernel)) <|
  n_cd (s_up fun G => s_iconst (pc := 50) (n := 0) (by decide +kernel) (by decide +kernel)) <|
  n_cd (s_up fun G => s_putI (pc := 51) (ci := 8) (k := 6) (idx := 31) nok8 (by decide) rfl rfl (by decide +kernel) w_202) <|
  n_cd (s_up fun G => s_aload_n (pc := 54) (k := 0) (by decide +kernel)) <|
  n_cd (s_up fun G => s_getR (pc := 55) (ci := 8) (k := 0) (idx := 9) nok8 (by decide) rfl (by decide +kernel) w_182) <|
  n_cd (s_up fun G => s_bipush (pc := 58) (n := 9) (by decide +kernel) (by decide +kernel)) <|
  n_cd (s_up fun G => s_callS (pc := 60) (csJ7_fill_53178 N) (by decide) okJ7_fill_53178 w_180 w_179 (by decide +kernel)) <|
  n_cd (s_vretd (pc := 63) rfl (by decide +kernel)) <|
  n_ed
abbrev aX8_init (N : Nat) : List (Nat × nD (Unit × nH)) := aX8_init_0 N
theorem iX8_init {l : Launch} {w : nW} (N : Nat) : n_AllD l w 1 mX8_init (fun r => (dv_v r.1, r.2)) (aX8_init N) := (iX8_init_0 N)
def fX8_init (N : Nat) (x0 : Nat) (hh : nH) : Option (Unit × nH) :=
  n_chk (Nat.blt 0 x0 && true) <|
  n_chk (!decide ((12 : Int32) < 0) && Nat.ble ((12 : Int32).toNatClampNeg * 4) 536870912) <|
  let a1 : Nat := n_n hh.1 + 1
  let h2 : nH := n_alloc hh 14 (12 : Int32).toNatClampNeg
  n_chk (Nat.beq (n_kd h2.1 x0) 8) <|
  let h3 : nH := n_upR h2 x0 0 a1
  n_chk (!decide ((16 : Int32) < 0) && Nat.ble ((16 : Int32).toNatClampNeg * 4) 536870912) <|
  let a4 : Nat := n_n h3.1 + 1
  let h5 : nH := n_alloc h3 14 (16 : Int32).toNatClampNeg
  n_chk (Nat.beq (n_kd h5.1 x0) 8) <|
  let h6 : nH := n_upR h5 x0 1 a4
  n_chk (!decide ((16 : Int32) < 0) && Nat.ble ((16 : Int32).toNatClampNeg * 4) 536870912) <|
  let a7 : Nat := n_n h6.1 + 1
  let h8 : nH := n_alloc h6 14 (16 : Int32).toNatClampNeg
  n_chk (Nat.beq (n_kd h8.1 x0) 8) <|
  let h9 : nH := n_upR h8 x0 2 a7
  n_chk (!decide ((12 : Int32) < 0) && Nat.ble ((12 : Int32).toNatClampNeg * 4) 536870912) <|
  let a10 : Nat := n_n h9.1 + 1
  let h11 : nH := n_alloc h9 14 (12 : Int32).toNatClampNeg
  n_chk (Nat.beq (n_kd h11.1 x0) 8) <|
  let h12 : nH := n_upR h11 x0 3 a10
  n_chk (!decide ((12 : Int32) < 0) && Nat.ble ((12 : Int32).toNatClampNeg * 4) 536870912) <|
  let a13 : Nat := n_n h12.1 + 1
  let h14 : nH := n_alloc h12 14 (12 : Int32).toNatClampNeg
  n_chk (Nat.beq (n_kd h14.1 x0) 8) <|
  let h15 : nH := n_upR h14 x0 4 a13
  n_chk (Nat.beq (n_kd h15.1 x0) 8) <|
  let h16 : nH := (h15.1, n_up h15.2 x0 5 (0 : Int32))
  n_chk (Nat.beq (n_kd h16.1 x0) 8) <|
  let h17 : nH := (h16.1, n_up h16.2 x0 6 (0 : Int32))
  n_chk (Nat.beq (n_kd h17.1 x0) 8) <|
  let a18 : Nat := n_mr h17.1 x0 0
  (fJ7_fill_53178 N h17.1 a18 (9 : Int32) h17.2).bind fun p19 =>
  let h20 : nH := (h17.1, p19.2)
  some ((), h20)
set_option maxRecDepth 200000 in
theorem bX8_init_0 {l : Launch} {w : nW} (N : Nat) (x0 : Nat) (hh : nH) (r : Unit × nH) (h : fX8_init N x0 hh = some r) : n_At l w 1 mX8_init 0 [(0, .ref x0)] [] hh (dv_v r.1, r.2) :=
  n_segd (K := []) (fin := fun r => (dv_v r.1, r.2)) 36 (iX8_init N) n_ked (by rfl) h
theorem eX8_init {l : Launch} {w : nW} (N : Nat) (z0 : Nat) (hh : nH) (r : Unit × nH) (h : fX8_init N z0 hh = some r) : n_Met l w 1 mX8_init [.ref z0] hh (dv_v r.1, r.2) :=
  n_entry (by decide +kernel) rfl (Nat.le_of_ble_eq_true rfl) (n_sub (lv := [(0, .ref z0)]) (n_qc rfl n_qe) (bX8_init_0 N z0 hh r h))
abbrev hX8_init (N : Nat) : nFd := fun T as hh k => n_pR as (fun z0 as => n_pE as ((fX8_init N z0 hh).bind fun p => k (dv_v p.1) p.2))
theorem csX8_init {l : Launch} {w : nW} (N : Nat) : n_CSd l w 1 mX8_init (hX8_init N) := fun T as hh k r h => by
  obtain ⟨z0, t0, rfl, h1⟩ := n_pR_x h
  obtain ⟨rfl, hE⟩ := n_pE_x h1
  obtain ⟨p, hp, hk⟩ := Option.bind_eq_some_iff.mp hE
  exact ⟨_, _, eX8_init N z0 hh p hp, hk⟩
/-! ===== SleightHouse$Moving.<init>(Z)V ===== -/
def mX4_init : nY := (RX4, yX4_init, cX4_init, 2, none)
theorem okX4_init : n_MOK mX4_init 1 := ⟨w_226, w_141, ⟨by decide +kernel, by decide +kernel, by decide +kernel⟩, by decide⟩
abbrev aX4_init_0 : List (Nat × nD (Unit × nH)) := [(0, o_up (fun G => o_aload 0 1)), (1, o_up (fun G => o_objI 4)), (4, o_up (fun G => o_aload 0 5)), (5, o_up (fun G => o_push (.int (16 : Int32)) 7)), (7, o_newa 14 4 9), (9, o_putR 4 1 12), (12, o_up (fun G => o_aload 0 13)), (13, o_up (fun G => o_push (.int (16 : Int32)) 15)), (15, o_newa 14 4 17), (17, o_putR 4 2 20), (20, o_up (fun G => o_aload 0 21)), (21, o_up (fun G => o_push (.int (12 : Int32)) 23)), (23, o_newa 14 4 25), (25, o_putR 4 3 28), (28, o_up (fun G => o_aload 0 29)), (29, o_up (fun G => o_push (.int (12 : Int32)) 31)), (31, o_newa 14 4 33), (33, o_putR 4 4 36), (36, o_up (fun G => o_aload 0 37)), (37, o_up (fun G => o_push (.int (0 : Int32)) 38)), (38, o_up (fun G => o_putI G 4 5 41)), (41, o_up (fun G => o_aload 0 42)), (42, o_up (fun G => o_push (.int (0 : Int32)) 43)), (43, o_up (fun G => o_putI G 4 6 46)), (46, o_up (fun G => o_aload 0 47)), (47, o_up (fun G => o_push (.int (0 : Int32)) 48)), (48, o_up (fun G => o_putI G 4 7 51)), (51, o_up (fun G => o_aload 0 52)), (52, o_up (fun G => o_push (.int (0 : Int32)) 53)), (53, o_up (fun G => o_putI G 4 8 56)), (56, o_up (fun G => o_aload 0 57)), (57, o_up (fun G => o_push (.int (0 : Int32)) 58)), (58, o_up (fun G => o_putI G 4 9 61)), (61, o_up (fun G => o_aload 0 62)), (62, o_up (fun G => o_push (.int (0 : Int32)) 63)), (63, o_up (fun G => o_putI G 4 10 66)), (66, o_up (fun G => o_aload 0 67)), (67, o_up (fun G => o_push (.int (0 : Int32)) 68)), (68, o_up (fun G => o_putI G 4 11 71)), (71, o_up (fun G => o_aload 0 72))]
set_option maxRecDepth 200000 in
theorem iX4_init_0 {l : Launch} {w : nW} : n_AllD l w 0 mX4_init (fun r => (dv_v r.1, r.2)) (aX4_init_0) :=
  n_cd (s_up fun G => s_aload_n (pc := 0) (k := 0) (by decide +kernel)) <|
  n_cd (s_up fun G => s_objI (pc := 1) w_227 w_165 w_166 (by decide +kernel)) <|
  n_cd (s_up fun G => s_aload_n (pc := 4) (k := 0) (by decide +kernel)) <|
  n_cd (s_up fun G => s_bipush (pc := 5) (n := 16) (by decide +kernel) (by decide +kernel)) <|
  n_cd (s_newI (pc := 7) w_221 (by decide +kernel)) <|
  n_cd (s_putRF (pc := 9) (ci := 4) (k := 1) (idx := 9) nok4 (by decide) rfl rfl rfl rfl (by decide +kernel) w_230) <|
  n_cd (s_up fun G => s_aload_n (pc := 12) (k := 0) (by decide +kernel)) <|
  n_cd (s_up fun G => s_bipush (pc := 13) (n := 16) (by decide +kernel) (by decide +kernel)) <|
  n_cd (s_newI (pc := 15) w_221 (by decide +kernel)) <|
  n_cd (s_putRF (pc := 17) (ci := 4) (k := 2) (idx := 15) nok4 (by decide) rfl rfl rfl rfl (by decide +kernel) w_233) <|
  n_cd (s_up fun G => s_aload_n (pc := 20) (k := 0) (by decide +kernel)) <|
  n_cd (s_up fun G => s_bipush (pc := 21) (n := 12) (by decide +kernel) (by decide +kernel)) <|
  n_cd (s_newI (pc := 23) w_221 (by decide +kernel)) <|
  n_cd (s_putRF (pc := 25) (ci := 4) (k := 3) (idx := 18) nok4 (by decide) rfl rfl rfl rfl (by decide +kernel) w_236) <|
  n_cd (s_up fun G => s_aload_n (pc := 28) (k := 0) (by decide +kernel)) <|
  n_cd (s_up fun G => s_bipush (pc := 29) (n := 12) (by decide +kernel) (by decide +kernel)) <|
  n_cd (s_newI (pc := 31) w_221 (by decide +kernel)) <|
  n_cd (s_putRF (pc := 33) (ci := 4) (k := 4) (idx := 21) nok4 (by decide) rfl rfl rfl rfl (by decide +kernel) w_239) <|
  n_cd (s_up fun G => s_aload_n (pc := 36) (k := 0) (by decide +kernel)) <|
  n_cd (s_up fun G => s_iconst (pc := 37) (n := 0) (by decide +kernel) (by decide +kernel)) <|
  n_cd (s_up fun G => s_putI (pc := 38) (ci := 4) (k := 5) (idx := 24) nok4 (by decide) rfl rfl (by decide +kernel) w_242) <|
  n_cd (s_up fun G => s_aload_n (pc := 41) (k := 0) (by decide +kernel)) <|
  n_cd (s_up fun G => s_iconst (pc := 42) (n := 0) (by decide +kernel) (by decide +kernel)) <|
  n_cd (s_up fun G => s_putI (pc := 43) (ci := 4) (k := 6) (idx := 28) nok4 (by decide) rfl rfl (by decide +kernel) w_245) <|
  n_cd (s_up fun G => s_aload_n (pc := 46) (k := 0) (by decide +kernel)) <|
  n_cd (s_up fun G => s_iconst (pc := 47) (n := 0) (by decide +kernel) (by decide +kernel)) <|
  n_cd (s_up fun G => s_putI (pc := 48) (ci := 4) (k := 7) (idx := 31) nok4 (by decide) rfl rfl (by decide +kernel) w_248) <|
  n_cd (s_up fun G => s_aload_n (pc := 51) (k := 0) (by decide +kernel)) <|
  n_cd (s_up fun G => s_iconst (pc := 52) (n := 0) (by decide +kernel) (by decide +kernel)) <|
  n_cd (s_up fun G => s_putI (pc := 53) (ci := 4) (k := 8) (idx := 34) nok4 (by decide) rfl rfl (by decide +kernel) w_251) <|
  n_cd (s_up fun G => s_aload_n (pc := 56) (k := 0) (by decide +kernel)) <|
  n_cd (s_up fun G => s_iconst (pc := 57) (n := 0) (by decide +kernel) (by decide +kernel)) <|
  n_cd (s_up fun G => s_putI (pc := 58) (ci := 4) (k := 9) (idx := 37) nok4 (by decide) rfl rfl (by decide +kernel) w_254) <|
  n_cd (s_up fun G => s_aload_n (pc := 61) (k := 0) (by decide +kernel)) <|
  n_cd (s_up fun G => s_iconst (pc := 62) (n := 0) (by decide +kernel) (by decide +kernel)) <|
  n_cd (s_up fun G => s_putI (pc := 63) (ci := 4) (k := 10) (idx := 40) nok4 (by decide) rfl rfl (by decide +kernel) w_257) <|
  n_cd (s_up fun G => s_aload_n (pc := 66) (k := 0) (by decide +kernel)) <|
  n_cd (s_up fun G => s_iconst (pc := 67) (n := 0) (by decide +kernel) (by decide +kernel)) <|
  n_cd (s_up fun G => s_putI (pc := 68) (ci := 4) (k := 11) (idx := 43) nok4 (by decide) rfl rfl (by decide +kernel) w_260) <|
  n_cd (s_up fun G => s_aload_n (pc := 71) (k := 0) (by decide +kernel)) <|
  n_ed
abbrev aX4_init_1 : List (Nat × nD (Unit × nH)) := [(72, o_up (fun G => o_iload 1 73)), (73, o_up (fun G => o_putZ G 4 0 76)), (76, o_vretd)]
set_option maxRecDepth 200000 in
theorem iX4_init_1 {l : Launch} {w : nW} : n_AllD l w 0 mX4_init (fun r => (dv_v r.1, r.2)) (aX4_init_1) :=
  n_cd (s_up fun G => s_iload_n (pc := 72) (k := 1) (by decide +kernel)) <|
  n_cd (s_up fun G => s_putZF (pc := 73) (ci := 4) (k := 0) (idx := 46) nok4 (by decide) rfl rfl rfl rfl (by decide +kernel) w_228) <|
  n_cd (s_vretd (pc := 76) rfl (by decide +kernel)) <|
  n_ed
abbrev aX4_init : List (Nat × nD (Unit × nH)) := aX4_init_0 ++ (aX4_init_1)
theorem iX4_init {l : Launch} {w : nW} : n_AllD l w 0 mX4_init (fun r => (dv_v r.1, r.2)) (aX4_init) := (n_AllD.app (iX4_init_0) (iX4_init_1))
def fX4_init (x0 : Nat) (x1 : Int32) (hh : nH) : Option (Unit × nH) :=
  n_chk (Nat.blt 0 x0 && true) <|
  n_chk (!decide ((16 : Int32) < 0) && Nat.ble ((16 : Int32).toNatClampNeg * 4) 536870912) <|
  let a1 : Nat := n_n hh.1 + 1
  let h2 : nH := n_alloc hh 14 (16 : Int32).toNatClampNeg
  n_chk (Nat.beq (n_kd h2.1 x0) 4) <|
  let h3 : nH := n_upR h2 x0 1 a1
  n_chk (!decide ((16 : Int32) < 0) && Nat.ble ((16 : Int32).toNatClampNeg * 4) 536870912) <|
  let a4 : Nat := n_n h3.1 + 1
  let h5 : nH := n_alloc h3 14 (16 : Int32).toNatClampNeg
  n_chk (Nat.beq (n_kd h5.1 x0) 4) <|
  let h6 : nH := n_upR h5 x0 2 a4
  n_chk (!decide ((12 : Int32) < 0) && Nat.ble ((12 : Int32).toNatClampNeg * 4) 536870912) <|
  let a7 : Nat := n_n h6.1 + 1
  let h8 : nH := n_alloc h6 14 (12 : Int32).toNatClampNeg
  n_chk (Nat.beq (n_kd h8.1 x0) 4) <|
  let h9 : nH := n_upR h8 x0 3 a7
  n_chk (!decide ((12 : Int32) < 0) && Nat.ble ((12 : Int32).toNatClampNeg * 4) 536870912) <|
  let a10 : Nat := n_n h9.1 + 1
  let h11 : nH := n_alloc h9 14 (12 : Int32).toNatClampNeg
  n_chk (Nat.beq (n_kd h11.1 x0) 4) <|
  let h12 : nH := n_upR h11 x0 4 a10
  n_chk (Nat.beq (n_kd h12.1 x0) 4) <|
  let h13 : nH := (h12.1, n_up h12.2 x0 5 (0 : Int32))
  n_chk (Nat.beq (n_kd h13.1 x0) 4) <|
  let h14 : nH := (h13.1, n_up h13.2 x0 6 (0 : Int32))
  n_chk (Nat.beq (n_kd h14.1 x0) 4) <|
  let h15 : nH := (h14.1, n_up h14.2 x0 7 (0 : Int32))
  n_chk (Nat.beq (n_kd h15.1 x0) 4) <|
  let h16 : nH := (h15.1, n_up h15.2 x0 8 (0 : Int32))
  n_chk (Nat.beq (n_kd h16.1 x0) 4) <|
  let h17 : nH := (h16.1, n_up h16.2 x0 9 (0 : Int32))
  n_chk (Nat.beq (n_kd h17.1 x0) 4) <|
  let h18 : nH := (h17.1, n_up h17.2 x0 10 (0 : Int32))
  n_chk (Nat.beq (n_kd h18.1 x0) 4) <|
  let h19 : nH := (h18.1, n_up h18.2 x0 11 (0 : Int32))
  n_chk (Nat.beq (n_kd h19.1 x0) 4 && (x1 == 0 || x1 == 1)) <|
  let h20 : nH := (h19.1, n_up h19.2 x0 0 x1)
  some ((), h20)
set_option maxRecDepth 200000 in
theorem bX4_init_0 {l : Launch} {w : nW} (x0 : Nat) (x1 : Int32) (hh : nH) (r : Unit × nH) (h : fX4_init x0 x1 hh = some r) : n_At l w 0 mX4_init 0 [(0, .ref x0), (1, .int x1)] [] hh (dv_v r.1, r.2) :=
  n_segd (K := []) (fin := fun r => (dv_v r.1, r.2)) 46 (iX4_init) n_ked (by rfl) h
theorem eX4_init {l : Launch} {w : nW} (z0 : Nat) (z1 : Int32) (hh : nH) (r : Unit × nH) (h : fX4_init z0 z1 hh = some r) : n_Met l w 0 mX4_init [.ref z0, .int z1] hh (dv_v r.1, r.2) :=
  n_entry (by decide +kernel) rfl (Nat.le_of_ble_eq_true rfl) (n_sub (lv := [(0, .ref z0), (1, .int z1)]) (n_qc rfl (n_qc rfl n_qe)) (bX4_init_0 z0 z1 hh r h))
abbrev hX4_init : nFd := fun T as hh k => n_pR as (fun z0 as => n_pI as (fun z1 as => n_pE as ((fX4_init z0 z1 hh).bind fun p => k (dv_v p.1) p.2)))
theorem csX4_init {l : Launch} {w : nW} : n_CSd l w 0 mX4_init (hX4_init) := fun T as hh k r h => by
  obtain ⟨z0, t0, rfl, h1⟩ := n_pR_x h
  obtain ⟨z1, t1, rfl, h2⟩ := n_pI_x h1
  obtain ⟨rfl, hE⟩ := n_pE_x h2
  obtain ⟨p, hp, hk⟩ := Option.bind_eq_some_iff.mp hE
  exact ⟨_, _, eX4_init z0 z1 hh p hp, hk⟩
/-! ===== SleightHouse$Rows.<init>(II)V ===== -/
def mX7_init : nY := (RX7, yX7_init, cX7_init, 3, none)
theorem okX7_init : n_MOK mX7_init 2 := ⟨w_292, w_142, ⟨by decide +kernel, by decide +kernel, by decide +kernel⟩, by decide⟩
abbrev aX7_init_0 : List (Nat × nD (Unit × nH)) := [(0, o_up (fun G => o_aload 0 1)), (1, o_up (fun G => o_objI 4)), (4, o_up (fun G => o_aload 0 5)), (5, o_up (fun G => o_push (.int (0 : Int32)) 6)), (6, o_up (fun G => o_putI G 7 3 9)), (9, o_up (fun G => o_aload 0 10)), (10, o_up (fun G => o_iload 1 11)), (11, o_up (fun G => o_push (.int (0 : Int32)) 12)), (12, o_up (fun G => o_mmax 15)), (15, o_up (fun G => o_putI G 7 2 18)), (18, o_up (fun G => o_aload 0 19)), (19, o_up (fun G => o_iload 2 20)), (20, o_up (fun G => o_push (.int (1 : Int32)) 21)), (21, o_up (fun G => o_mmax 24)), (24, o_up (fun G => o_push (.int (4 : Int32)) 25)), (25, o_up (fun G => o_mmin 28)), (28, o_up (fun G => o_putI G 7 1 31)), (31, o_up (fun G => o_aload 0 32)), (32, o_up (fun G => o_aload 0 33)), (33, o_up (fun G => o_getI G 7 2 36)), (36, o_up (fun G => o_aload 0 37)), (37, o_up (fun G => o_getI G 7 1 40)), (40, o_up (fun G => o_imul 41)), (41, o_newa 14 4 43), (43, o_putR 7 0 46), (46, o_vretd)]
set_option maxRecDepth 200000 in
theorem iX7_init_0 {l : Launch} {w : nW} : n_AllD l w 0 mX7_init (fun r => (dv_v r.1, r.2)) (aX7_init_0) :=
  n_cd (s_up fun G => s_aload_n (pc := 0) (k := 0) (by decide +kernel)) <|
  n_cd (s_up fun G => s_objI (pc := 1) w_293 w_165 w_166 (by decide +kernel)) <|
  n_cd (s_up fun G => s_aload_n (pc := 4) (k := 0) (by decide +kernel)) <|
  n_cd (s_up fun G => s_iconst (pc := 5) (n := 0) (by decide +kernel) (by decide +kernel)) <|
  n_cd (s_up fun G => s_putI (pc := 6) (ci := 7) (k := 3) (idx := 9) nok7 (by decide) rfl rfl (by decide +kernel) w_303) <|
  n_cd (s_up fun G => s_aload_n (pc := 9) (k := 0) (by decide +kernel)) <|
  n_cd (s_up fun G => s_iload_n (pc := 10) (k := 1) (by decide +kernel)) <|
  n_cd (s_up fun G => s_iconst (pc := 11) (n := 0) (by decide +kernel) (by decide +kernel)) <|
  n_cd (s_up fun G => s_mmax (pc := 12) w_294 w_295 w_143 w_296 (by decide +kernel)) <|
  n_cd (s_up fun G => s_putIF (pc := 15) (ci := 7) (k := 2) (idx := 21) nok7 (by decide) rfl rfl rfl rfl (by decide +kernel) w_302) <|
  n_cd (s_up fun G => s_aload_n (pc := 18) (k := 0) (by decide +kernel)) <|
  n_cd (s_up fun G => s_iload_n (pc := 19) (k := 2) (by decide +kernel)) <|
  n_cd (s_up fun G => s_iconst (pc := 20) (n := 1) (by decide +kernel) (by decide +kernel)) <|
  n_cd (s_up fun G => s_mmax (pc := 21) w_294 w_295 w_143 w_296 (by decide +kernel)) <|
  n_cd (s_up fun G => s_iconst (pc := 24) (n := 4) (by decide +kernel) (by decide +kernel)) <|
  n_cd (s_up fun G => s_mmin (pc := 25) w_297 w_298 w_143 w_299 (by decide +kernel)) <|
  n_cd (s_up fun G => s_putIF (pc := 28) (ci := 7) (k := 1) (idx := 27) nok7 (by decide) rfl rfl rfl rfl (by decide +kernel) w_301) <|
  n_cd (s_up fun G => s_aload_n (pc := 31) (k := 0) (by decide +kernel)) <|
  n_cd (s_up fun G => s_aload_n (pc := 32) (k := 0) (by decide +kernel)) <|
  n_cd (s_up fun G => s_getI (pc := 33) (ci := 7) (k := 2) (idx := 21) nok7 (by decide) rfl (by decide +kernel) w_302) <|
  n_cd (s_up fun G => s_aload_n (pc := 36) (k := 0) (by decide +kernel)) <|
  n_cd (s_up fun G => s_getI (pc := 37) (ci := 7) (k := 1) (idx := 27) nok7 (by decide) rfl (by decide +kernel) w_301) <|
  n_cd (s_up fun G => s_imul (pc := 40) (by decide +kernel)) <|
  n_cd (s_newI (pc := 41) w_221 (by decide +kernel)) <|
  n_cd (s_putRF (pc := 43) (ci := 7) (k := 0) (idx := 30) nok7 (by decide) rfl rfl rfl rfl (by decide +kernel) w_300) <|
  n_cd (s_vretd (pc := 46) rfl (by decide +kernel)) <|
  n_ed
abbrev aX7_init : List (Nat × nD (Unit × nH)) := aX7_init_0
theorem iX7_init {l : Launch} {w : nW} : n_AllD l w 0 mX7_init (fun r => (dv_v r.1, r.2)) (aX7_init) := (iX7_init_0)
def fX7_init (x0 : Nat) (x1 : Int32) (x2 : Int32) (hh : nH) : Option (Unit × nH) :=
  n_chk (Nat.blt 0 x0 && true) <|
  n_chk (Nat.beq (n_kd hh.1 x0) 7) <|
  let h1 : nH := (hh.1, n_up hh.2 x0 3 (0 : Int32))
  n_chk (Nat.beq (n_kd h1.1 x0) 7) <|
  let h2 : nH := (h1.1, n_up h1.2 x0 2 (if x1 < (0 : Int32) then (0 : Int32) else x1))
  n_chk (Nat.beq (n_kd h2.1 x0) 7) <|
  let h3 : nH := (h2.1, n_up h2.2 x0 1 (if (4 : Int32) < (if x2 < (1 : Int32) then (1 : Int32) else x2) then (4 : Int32) else (if x2 < (1 : Int32) then (1 : Int32) else x2)))
  n_chk (Nat.beq (n_kd h3.1 x0) 7) <|
  let v4 : Int32 := h3.2 x0 2
  n_chk (Nat.beq (n_kd h3.1 x0) 7) <|
  let v5 : Int32 := h3.2 x0 1
  n_chk (!decide ((v4 * v5) < 0) && Nat.ble ((v4 * v5).toNatClampNeg * 4) 536870912) <|
  let a6 : Nat := n_n h3.1 + 1
  let h7 : nH := n_alloc h3 14 (v4 * v5).toNatClampNeg
  n_chk (Nat.beq (n_kd h7.1 x0) 7) <|
  let h8 : nH := n_upR h7 x0 0 a6
  some ((), h8)
set_option maxRecDepth 200000 in
theorem bX7_init_0 {l : Launch} {w : nW} (x0 : Nat) (x1 : Int32) (x2 : Int32) (hh : nH) (r : Unit × nH) (h : fX7_init x0 x1 x2 hh = some r) : n_At l w 0 mX7_init 0 [(0, .ref x0), (1, .int x1), (2, .int x2)] [] hh (dv_v r.1, r.2) :=
  n_segd (K := []) (fin := fun r => (dv_v r.1, r.2)) 29 (iX7_init) n_ked (by rfl) h
theorem eX7_init {l : Launch} {w : nW} (z0 : Nat) (z1 : Int32) (z2 : Int32) (hh : nH) (r : Unit × nH) (h : fX7_init z0 z1 z2 hh = some r) : n_Met l w 0 mX7_init [.ref z0, .int z1, .int z2] hh (dv_v r.1, r.2) :=
  n_entry (by decide +kernel) rfl (Nat.le_of_ble_eq_true rfl) (n_sub (lv := [(0, .ref z0), (1, .int z1), (2, .int z2)]) (n_qc rfl (n_qc rfl (n_qc rfl n_qe))) (bX7_init_0 z0 z1 z2 hh r h))
abbrev hX7_init : nFd := fun T as hh k => n_pR as (fun z0 as => n_pI as (fun z1 as => n_pI as (fun z2 as => n_pE as ((fX7_init z0 z1 z2 hh).bind fun p => k (dv_v p.1) p.2))))
theorem csX7_init {l : Launch} {w : nW} : n_CSd l w 0 mX7_init (hX7_init) := fun T as hh k r h => by
  obtain ⟨z0, t0, rfl, h1⟩ := n_pR_x h
  obtain ⟨z1, t1, rfl, h2⟩ := n_pI_x h1
  obtain ⟨z2, t2, rfl, h3⟩ := n_pI_x h2
  obtain ⟨rfl, hE⟩ := n_pE_x h3
  obtain ⟨p, hp, hk⟩ := Option.bind_eq_some_iff.mp hE
  exact ⟨_, _, eX7_init z0 z1 z2 hh p hp, hk⟩
/-! ===== SleightHouse$Law.<init>()V ===== -/
def mX3_init : nY := (RX3, yX3_init, cX3_init, 1, none)
theorem okX3_init : n_MOK mX3_init 0 := ⟨w_323, w_144, ⟨by decide +kernel, by decide +kernel, by decide +kernel⟩, by decide⟩
abbrev aX3_init_0 : List (Nat × nD (Unit × nH)) := [(0, o_up (fun G => o_aload 0 1)), (1, o_up (fun G => o_objI 4)), (4, o_up (fun G => o_aload 0 5)), (5, o_up (fun G => o_push (.int (400 : Int32)) 8)), (8, o_newa 14 4 10), (10, o_putR 3 0 13), (13, o_up (fun G => o_aload 0 14)), (14, o_up (fun G => o_push (.int (16 : Int32)) 16)), (16, o_newa 14 4 18), (18, o_putR 3 1 21), (21, o_up (fun G => o_aload 0 22)), (22, o_up (fun G => o_push (.int (16 : Int32)) 24)), (24, o_newa 14 4 26), (26, o_putR 3 2 29), (29, o_up (fun G => o_aload 0 30)), (30, o_up (fun G => o_push (.int (16 : Int32)) 32)), (32, o_newa 14 4 34), (34, o_putR 3 3 37), (37, o_up (fun G => o_aload 0 38)), (38, o_up (fun G => o_push (.int (16 : Int32)) 40)), (40, o_newa 14 4 42), (42, o_putR 3 4 45), (45, o_up (fun G => o_aload 0 46)), (46, o_up (fun G => o_push (.int (0 : Int32)) 47)), (47, o_up (fun G => o_putI G 3 5 50)), (50, o_up (fun G => o_aload 0 51)), (51, o_up (fun G => o_push (.int (0 : Int32)) 52)), (52, o_up (fun G => o_putI G 3 6 55)), (55, o_vretd)]
set_option maxRecDepth 200000 in
theorem iX3_init_0 {l : Launch} {w : nW} : n_AllD l w 0 mX3_init (fun r => (dv_v r.1, r.2)) (aX3_init_0) :=
  n_cd (s_up fun G => s_aload_n (pc := 0) (k := 0) (by decide +kernel)) <|
  n_cd (s_up fun G => s_objI (pc := 1) w_324 w_165 w_166 (by decide +kernel)) <|
  n_cd (s_up fun G => s_aload_n (pc := 4) (k := 0) (by decide +kernel)) <|
  n_cd (s_up fun G => s_sipush (pc := 5) (n := 400) (by decide +kernel) (by decide +kernel)) <|
  n_cd (s_newI (pc := 8) w_221 (by decide +kernel)) <|
  n_cd (s_putRF (pc := 10) (ci := 3) (k := 0) (idx := 9) nok3 (by decide) rfl rfl rfl rfl (by decide +kernel) w_325) <|
  n_cd (s_up fun G => s_aload_n (pc := 13) (k := 0) (by decide +kernel)) <|
  n_cd (s_up fun G => s_bipush (pc := 14) (n := 16) (by decide +kernel) (by decide +kernel)) <|
  n_cd (s_newI (pc := 16) w_221 (by decide +kernel)) <|
  n_cd (s_putRF (pc := 18) (ci := 3) (k := 1) (idx := 15) nok3 (by decide) rfl rfl rfl rfl (by decide +kernel) w_326) <|
  n_cd (s_up fun G => s_aload_n (pc := 21) (k := 0) (by decide +kernel)) <|
  n_cd (s_up fun G => s_bipush (pc := 22) (n := 16) (by decide +kernel) (by decide +kernel)) <|
  n_cd (s_newI (pc := 24) w_221 (by decide +kernel)) <|
  n_cd (s_putRF (pc := 26) (ci := 3) (k := 2) (idx := 18) nok3 (by decide) rfl rfl rfl rfl (by decide +kernel) w_327) <|
  n_cd (s_up fun G => s_aload_n (pc := 29) (k := 0) (by decide +kernel)) <|
  n_cd (s_up fun G => s_bipush (pc := 30) (n := 16) (by decide +kernel) (by decide +kernel)) <|
  n_cd (s_newI (pc := 32) w_221 (by decide +kernel)) <|
  n_cd (s_putRF (pc := 34) (ci := 3) (k := 3) (idx := 21) nok3 (by decide) rfl rfl rfl rfl (by decide +kernel) w_328) <|
  n_cd (s_up fun G => s_aload_n (pc := 37) (k := 0) (by decide +kernel)) <|
  n_cd (s_up fun G => s_bipush (pc := 38) (n := 16) (by decide +kernel) (by decide +kernel)) <|
  n_cd (s_newI (pc := 40) w_221 (by decide +kernel)) <|
  n_cd (s_putRF (pc := 42) (ci := 3) (k := 4) (idx := 24) nok3 (by decide) rfl rfl rfl rfl (by decide +kernel) w_329) <|
  n_cd (s_up fun G => s_aload_n (pc := 45) (k := 0) (by decide +kernel)) <|
  n_cd (s_up fun G => s_iconst (pc := 46) (n := 0) (by decide +kernel) (by decide +kernel)) <|
  n_cd (s_up fun G => s_putI (pc := 47) (ci := 3) (k := 5) (idx := 27) nok3 (by decide) rfl rfl (by decide +kernel) w_330) <|
  n_cd (s_up fun G => s_aload_n (pc := 50) (k := 0) (by decide +kernel)) <|
  n_cd (s_up fun G => s_iconst (pc := 51) (n := 0) (by decide +kernel) (by decide +kernel)) <|
  n_cd (s_up fun G => s_putI (pc := 52) (ci := 3) (k := 6) (idx := 31) nok3 (by decide) rfl rfl (by decide +kernel) w_331) <|
  n_cd (s_vretd (pc := 55) rfl (by decide +kernel)) <|
  n_ed
abbrev aX3_init : List (Nat × nD (Unit × nH)) := aX3_init_0
theorem iX3_init {l : Launch} {w : nW} : n_AllD l w 0 mX3_init (fun r => (dv_v r.1, r.2)) (aX3_init) := (iX3_init_0)
def fX3_init (x0 : Nat) (hh : nH) : Option (Unit × nH) :=
  n_chk (Nat.blt 0 x0 && true) <|
  n_chk (!decide ((400 : Int32) < 0) && Nat.ble ((400 : Int32).toNatClampNeg * 4) 536870912) <|
  let a1 : Nat := n_n hh.1 + 1
  let h2 : nH := n_alloc hh 14 (400 : Int32).toNatClampNeg
  n_chk (Nat.beq (n_kd h2.1 x0) 3) <|
  let h3 : nH := n_upR h2 x0 0 a1
  n_chk (!decide ((16 : Int32) < 0) && Nat.ble ((16 : Int32).toNatClampNeg * 4) 536870912) <|
  let a4 : Nat := n_n h3.1 + 1
  let h5 : nH := n_alloc h3 14 (16 : Int32).toNatClampNeg
  n_chk (Nat.beq (n_kd h5.1 x0) 3) <|
  let h6 : nH := n_upR h5 x0 1 a4
  n_chk (!decide ((16 : Int32) < 0) && Nat.ble ((16 : Int32).toNatClampNeg * 4) 536870912) <|
  let a7 : Nat := n_n h6.1 + 1
  let h8 : nH := n_alloc h6 14 (16 : Int32).toNatClampNeg
  n_chk (Nat.beq (n_kd h8.1 x0) 3) <|
  let h9 : nH := n_upR h8 x0 2 a7
  n_chk (!decide ((16 : Int32) < 0) && Nat.ble ((16 : Int32).toNatClampNeg * 4) 536870912) <|
  let a10 : Nat := n_n h9.1 + 1
  let h11 : nH := n_alloc h9 14 (16 : Int32).toNatClampNeg
  n_chk (Nat.beq (n_kd h11.1 x0) 3) <|
  let h12 : nH := n_upR h11 x0 3 a10
  n_chk (!decide ((16 : Int32) < 0) && Nat.ble ((16 : Int32).toNatClampNeg * 4) 536870912) <|
  let a13 : Nat := n_n h12.1 + 1
  let h14 : nH := n_alloc h12 14 (16 : Int32).toNatClampNeg
  n_chk (Nat.beq (n_kd h14.1 x0) 3) <|
  let h15 : nH := n_upR h14 x0 4 a13
  n_chk (Nat.beq (n_kd h15.1 x0) 3) <|
  let h16 : nH := (h15.1, n_up h15.2 x0 5 (0 : Int32))
  n_chk (Nat.beq (n_kd h16.1 x0) 3) <|
  let h17 : nH := (h16.1, n_up h16.2 x0 6 (0 : Int32))
  some ((), h17)
set_option maxRecDepth 200000 in
theorem bX3_init_0 {l : Launch} {w : nW} (x0 : Nat) (hh : nH) (r : Unit × nH) (h : fX3_init x0 hh = some r) : n_At l w 0 mX3_init 0 [(0, .ref x0)] [] hh (dv_v r.1, r.2) :=
  n_segd (K := []) (fin := fun r => (dv_v r.1, r.2)) 32 (iX3_init) n_ked (by rfl) h
theorem eX3_init {l : Launch} {w : nW} (z0 : Nat) (hh : nH) (r : Unit × nH) (h : fX3_init z0 hh = some r) : n_Met l w 0 mX3_init [.ref z0] hh (dv_v r.1, r.2) :=
  n_entry (by decide +kernel) rfl (Nat.le_of_ble_eq_true rfl) (n_sub (lv := [(0, .ref z0)]) (n_qc rfl n_qe) (bX3_init_0 z0 hh r h))
abbrev hX3_init : nFd := fun T as hh k => n_pR as (fun z0 as => n_pE as ((fX3_init z0 hh).bind fun p => k (dv_v p.1) p.2))
theorem csX3_init {l : Launch} {w : nW} : n_CSd l w 0 mX3_init (hX3_init) := fun T as hh k r h => by
  obtain ⟨z0, t0, rfl, h1⟩ := n_pR_x h
  obtain ⟨rfl, hE⟩ := n_pE_x h1
  obtain ⟨p, hp, hk⟩ := Option.bind_eq_some_iff.mp hE
  exact ⟨_, _, eX3_init z0 hh p hp, hk⟩
/-! ===== SleightHouse$Told.<init>()V ===== -/
def mX10_init : nY := (RX10, yX10_init, cX10_init, 1, none)
theorem okX10_init : n_MOK mX10_init 0 := ⟨w_352, w_145, ⟨by decide +kernel, by decide +kernel, by decide +kernel⟩, by decide⟩
abbrev aX10_init_0 (N : Nat) : List (Nat × nD (Unit × nH)) := [(0, o_up (fun G => o_aload 0 1)), (1, o_up (fun G => o_objI 4)), (4, o_up (fun G => o_aload 0 5)), (5, o_new 7 4 8), (8, o_up (fun G => o_dup 9)), (9, o_up (fun G => o_push (.int (16 : Int32)) 11)), (11, o_up (fun G => o_push (.int (2 : Int32)) 12)), (12, o_callI 2 (hX7_init) 15), (15, o_putR 10 0 18), (18, o_up (fun G => o_aload 0 19)), (19, o_new 7 4 22), (22, o_up (fun G => o_dup 23)), (23, o_up (fun G => o_push (.int (4 : Int32)) 24)), (24, o_up (fun G => o_push (.int (1 : Int32)) 25)), (25, o_callI 2 (hX7_init) 28), (28, o_putR 10 1 31), (31, o_up (fun G => o_aload 0 32)), (32, o_new 7 4 35), (35, o_up (fun G => o_dup 36)), (36, o_up (fun G => o_push (.int (8 : Int32)) 38)), (38, o_up (fun G => o_push (.int (2 : Int32)) 39)), (39, o_callI 2 (hX7_init) 42), (42, o_putR 10 2 45), (45, o_up (fun G => o_aload 0 46)), (46, o_new 7 4 49), (49, o_up (fun G => o_dup 50)), (50, o_up (fun G => o_push (.int (12 : Int32)) 52)), (52, o_up (fun G => o_push (.int (2 : Int32)) 53)), (53, o_callI 2 (hX7_init) 56), (56, o_putR 10 3 59), (59, o_up (fun G => o_aload 0 60)), (60, o_new 7 4 63), (63, o_up (fun G => o_dup 64)), (64, o_up (fun G => o_push (.int (10 : Int32)) 66)), (66, o_up (fun G => o_push (.int (3 : Int32)) 67)), (67, o_callI 2 (hX7_init) 70), (70, o_putR 10 4 73), (73, o_up (fun G => o_aload 0 74)), (74, o_new 7 4 77), (77, o_up (fun G => o_dup 78))]
set_option maxRecDepth 200000 in
theorem iX10_init_0 {l : Launch} {w : nW} (N : Nat) : n_AllD l w 1 mX10_init (fun r => (dv_v r.1, r.2)) (aX10_init_0 N) :=
  n_cd (s_up fun G => s_aload_n (pc := 0) (k := 0) (by decide +kernel)) <|
  n_cd (s_up fun G => s_objI (pc := 1) w_353 w_165 w_166 (by decide +kernel)) <|
  n_cd (s_up fun G => s_aload_n (pc := 4) (k := 0) (by decide +kernel)) <|
  n_cd (s_new (pc := 5) nok7 ndf7 w_354 w_289 w_142 (by decide +kernel)) <|
  n_cd (s_up fun G => s_dup (pc := 8) (by decide +kernel)) <|
  n_cd (s_up fun G => s_bipush (pc := 9) (n := 16) (by decide +kernel) (by decide +kernel)) <|
  n_cd (s_up fun G => s_iconst (pc := 11) (n := 2) (by decide +kernel) (by decide +kernel)) <|
  n_cd (s_callI (pc := 12) (idx := 11) (csX7_init) (by decide) okX7_init rfl rfl w_291 w_355 (by decide +kernel)) <|
  n_cd (s_putRF (pc := 15) (ci := 10) (k := 0) (idx := 14) nok10 (by decide) rfl rfl rfl rfl (by decide +kernel) w_357) <|
  n_cd (s_up fun G => s_aload_n (pc := 18) (k := 0) (by decide +kernel)) <|
  n_cd (s_new (pc := 19) nok7 ndf7 w_354 w_289 w_142 (by decide +kernel)) <|
  n_cd (s_up fun G => s_dup (pc := 22) (by decide +kernel)) <|
  n_cd (s_up fun G => s_iconst (pc := 23) (n := 4) (by decide +kernel) (by decide +kernel)) <|
  n_cd (s_up fun G => s_iconst (pc := 24) (n := 1) (by decide +kernel) (by decide +kernel)) <|
  n_cd (s_callI (pc := 25) (idx := 11) (csX7_init) (by decide) okX7_init rfl rfl w_291 w_355 (by decide +kernel)) <|
  n_cd (s_putRF (pc := 28) (ci := 10) (k := 1) (idx := 20) nok10 (by decide) rfl rfl rfl rfl (by decide +kernel) w_360) <|
  n_cd (s_up fun G => s_aload_n (pc := 31) (k := 0) (by decide +kernel)) <|
  n_cd (s_new (pc := 32) nok7 ndf7 w_354 w_289 w_142 (by decide +kernel)) <|
  n_cd (s_up fun G => s_dup (pc := 35) (by decide +kernel)) <|
  n_cd (s_up fun G => s_bipush (pc := 36) (n := 8) (by decide +kernel) (by decide +kernel)) <|
  n_cd (s_up fun G => s_iconst (pc := 38) (n := 2) (by decide +kernel) (by decide +kernel)) <|
  n_cd (s_callI (pc := 39) (idx := 11) (csX7_init) (by decide) okX7_init rfl rfl w_291 w_355 (by decide +kernel)) <|
  n_cd (s_putRF (pc := 42) (ci := 10) (k := 2) (idx := 23) nok10 (by decide) rfl rfl rfl rfl (by decide +kernel) w_363) <|
  n_cd (s_up fun G => s_aload_n (pc := 45) (k := 0) (by decide +kernel)) <|
  n_cd (s_new (pc := 46) nok7 ndf7 w_354 w_289 w_142 (by decide +kernel)) <|
  n_cd (s_up fun G => s_dup (pc := 49) (by decide +kernel)) <|
  n_cd (s_up fun G => s_bipush (pc := 50) (n := 12) (by decide +kernel) (by decide +kernel)) <|
  n_cd (s_up fun G => s_iconst (pc := 52) (n := 2) (by decide +kernel) (by decide +kernel)) <|
  n_cd (s_callI (pc := 53) (idx := 11) (csX7_init) (by decide) okX7_init rfl rfl w_291 w_355 (by decide +kernel)) <|
  n_cd (s_putRF (pc := 56) (ci := 10) (k := 3) (idx := 26) nok10 (by decide) rfl rfl rfl rfl (by decide +kernel) w_366) <|
  n_cd (s_up fun G => s_aload_n (pc := 59) (k := 0) (by decide +kernel)) <|
  n_cd (s_new (pc := 60) nok7 ndf7 w_354 w_289 w_142 (by decide +kernel)) <|
  n_cd (s_up fun G => s_dup (pc := 63) (by decide +kernel)) <|
  n_cd (s_up fun G => s_bipush (pc := 64) (n := 10) (by decide +kernel) (by decide +kernel)) <|
  n_cd (s_up fun G => s_iconst (pc := 66) (n := 3) (by decide +kernel) (by decide +kernel)) <|
  n_cd (s_callI (pc := 67) (idx := 11) (csX7_init) (by decide) okX7_init rfl rfl w_291 w_355 (by decide +kernel)) <|
  n_cd (s_putRF (pc := 70) (ci := 10) (k := 4) (idx := 29) nok10 (by decide) rfl rfl rfl rfl (by decide +kernel) w_369) <|
  n_cd (s_up fun G => s_aload_n (pc := 73) (k := 0) (by decide +kernel)) <|
  n_cd (s_new (pc := 74) nok7 ndf7 w_354 w_289 w_142 (by decide +kernel)) <|
  n_cd (s_up fun G => s_dup (pc := 77) (by decide +kernel)) <|
  n_ed
abbrev aX10_init_1 (N : Nat) : List (Nat × nD (Unit × nH)) := [(78, o_up (fun G => o_push (.int (6 : Int32)) 80)), (80, o_up (fun G => o_push (.int (1 : Int32)) 81)), (81, o_callI 2 (hX7_init) 84), (84, o_putR 10 5 87), (87, o_up (fun G => o_aload 0 88)), (88, o_new 7 4 91), (91, o_up (fun G => o_dup 92)), (92, o_up (fun G => o_push (.int (5 : Int32)) 93)), (93, o_up (fun G => o_push (.int (1 : Int32)) 94)), (94, o_callI 2 (hX7_init) 97), (97, o_putR 10 6 100), (100, o_up (fun G => o_aload 0 101)), (101, o_up (fun G => o_push (.int (12 : Int32)) 103)), (103, o_newa 14 4 105), (105, o_putR 10 7 108), (108, o_up (fun G => o_aload 0 109)), (109, o_up (fun G => o_push (.int (36 : Int32)) 111)), (111, o_newa 14 4 113), (113, o_putR 10 8 116), (116, o_up (fun G => o_aload 0 117)), (117, o_up (fun G => o_getR G 10 7 120)), (120, o_up (fun G => o_push (.int (2 : Int32)) 121)), (121, o_up (fun G => o_call 2 (hJ7_fill_53178 N G) 124)), (124, o_vretd)]
set_option maxRecDepth 200000 in
theorem iX10_init_1 {l : Launch} {w : nW} (N : Nat) : n_AllD l w 1 mX10_init (fun r => (dv_v r.1, r.2)) (aX10_init_1 N) :=
  n_cd (s_up fun G => s_bipush (pc := 78) (n := 6) (by decide +kernel) (by decide +kernel)) <|
  n_cd (s_up fun G => s_iconst (pc := 80) (n := 1) (by decide +kernel) (by decide +kernel)) <|
  n_cd (s_callI (pc := 81) (idx := 11) (csX7_init) (by decide) okX7_init rfl rfl w_291 w_355 (by decide +kernel)) <|
  n_cd (s_putRF (pc := 84) (ci := 10) (k := 5) (idx := 32) nok10 (by decide) rfl rfl rfl rfl (by decide +kernel) w_372) <|
  n_cd (s_up fun G => s_aload_n (pc := 87) (k := 0) (by decide +kernel)) <|
  n_cd (s_new (pc := 88) nok7 ndf7 w_354 w_289 w_142 (by decide +kernel)) <|
  n_cd (s_up fun G => s_dup (pc := 91) (by decide +kernel)) <|
  n_cd (s_up fun G => s_iconst (pc := 92) (n := 5) (by decide +kernel) (by decide +kernel)) <|
  n_cd (s_up fun G => s_iconst (pc := 93) (n := 1) (by decide +kernel) (by decide +kernel)) <|
  n_cd (s_callI (pc := 94) (idx := 11) (csX7_init) (by decide) okX7_init rfl rfl w_291 w_355 (by decide +kernel)) <|
  n_cd (s_putRF (pc := 97) (ci := 10) (k := 6) (idx := 35) nok10 (by decide) rfl rfl rfl rfl (by decide +kernel) w_375) <|
  n_cd (s_up fun G => s_aload_n (pc := 100) (k := 0) (by decide +kernel)) <|
  n_cd (s_up fun G => s_bipush (pc := 101) (n := 12) (by decide +kernel) (by decide +kernel)) <|
  n_cd (s_newI (pc := 103) w_221 (by decide +kernel)) <|
  n_cd (s_putRF (pc := 105) (ci := 10) (k := 7) (idx := 38) nok10 (by decide) rfl rfl rfl rfl (by decide +kernel) w_378) <|
  n_cd (s_up fun G => s_aload_n (pc := 108) (k := 0) (by decide +kernel)) <|
  n_cd (s_up fun G => s_bipush (pc := 109) (n := 36) (by decide +kernel) (by decide +kernel)) <|
  n_cd (s_newI (pc := 111) w_221 (by decide +kernel)) <|
  n_cd (s_putRF (pc := 113) (ci := 10) (k := 8) (idx := 42) nok10 (by decide) rfl rfl rfl rfl (by decide +kernel) w_380) <|
  n_cd (s_up fun G => s_aload_n (pc := 116) (k := 0) (by decide +kernel)) <|
  n_cd (s_up fun G => s_getR (pc := 117) (ci := 10) (k := 7) (idx := 38) nok10 (by decide) rfl (by decide +kernel) w_378) <|
  n_cd (s_up fun G => s_iconst (pc := 120) (n := 2) (by decide +kernel) (by decide +kernel)) <|
  n_cd (s_up fun G => s_callS (pc := 121) (csJ7_fill_53178 N) (by decide) okJ7_fill_53178 w_180 w_356 (by decide +kernel)) <|
  n_cd (s_vretd (pc := 124) rfl (by decide +kernel)) <|
  n_ed
abbrev aX10_init (N : Nat) : List (Nat × nD (Unit × nH)) := aX10_init_0 N ++ (aX10_init_1 N)
theorem iX10_init {l : Launch} {w : nW} (N : Nat) : n_AllD l w 1 mX10_init (fun r => (dv_v r.1, r.2)) (aX10_init N) := (n_AllD.app (iX10_init_0 N) (iX10_init_1 N))
def fX10_init_88 (N : Nat) (x0 : Nat) (s0 : Nat) (hh : nH) : Option (Unit × nH) :=
  let a1 : Nat := n_n hh.1 + 1
  let h2 : nH := n_alloc hh 7 4
  n_chk (Nat.blt 0 a1) <|
  (fX7_init a1 (5 : Int32) (1 : Int32) h2).bind fun p3 =>
  n_chk (Nat.beq (n_kd p3.2.1 s0) 10) <|
  let h4 : nH := n_upR p3.2 s0 6 a1
  n_chk (!decide ((12 : Int32) < 0) && Nat.ble ((12 : Int32).toNatClampNeg * 4) 536870912) <|
  let a5 : Nat := n_n h4.1 + 1
  let h6 : nH := n_alloc h4 14 (12 : Int32).toNatClampNeg
  n_chk (Nat.beq (n_kd h6.1 x0) 10) <|
  let h7 : nH := n_upR h6 x0 7 a5
  n_chk (!decide ((36 : Int32) < 0) && Nat.ble ((36 : Int32).toNatClampNeg * 4) 536870912) <|
  let a8 : Nat := n_n h7.1 + 1
  let h9 : nH := n_alloc h7 14 (36 : Int32).toNatClampNeg
  n_chk (Nat.beq (n_kd h9.1 x0) 10) <|
  let h10 : nH := n_upR h9 x0 8 a8
  n_chk (Nat.beq (n_kd h10.1 x0) 10) <|
  let a11 : Nat := n_mr h10.1 x0 7
  (fJ7_fill_53178 N h10.1 a11 (2 : Int32) h10.2).bind fun p12 =>
  let h13 : nH := (h10.1, p12.2)
  some ((), h13)
set_option maxRecDepth 200000 in
theorem bX10_init_88 {l : Launch} {w : nW} (N : Nat) (x0 : Nat) (s0 : Nat) (hh : nH) (r : Unit × nH) (h : fX10_init_88 N x0 s0 hh = some r) : n_At l w 1 mX10_init 88 [(0, .ref x0)] [.ref s0] hh (dv_v r.1, r.2) :=
  n_segd (K := []) (fin := fun r => (dv_v r.1, r.2)) 22 (iX10_init N) n_ked (by rfl) h
def fX10_init (N : Nat) (x0 : Nat) (hh : nH) : Option (Unit × nH) :=
  n_chk (Nat.blt 0 x0 && true) <|
  let a1 : Nat := n_n hh.1 + 1
  let h2 : nH := n_alloc hh 7 4
  n_chk (Nat.blt 0 a1) <|
  (fX7_init a1 (16 : Int32) (2 : Int32) h2).bind fun p3 =>
  n_chk (Nat.beq (n_kd p3.2.1 x0) 10) <|
  let h4 : nH := n_upR p3.2 x0 0 a1
  let a5 : Nat := n_n h4.1 + 1
  let h6 : nH := n_alloc h4 7 4
  n_chk (Nat.blt 0 a5) <|
  (fX7_init a5 (4 : Int32) (1 : Int32) h6).bind fun p7 =>
  n_chk (Nat.beq (n_kd p7.2.1 x0) 10) <|
  let h8 : nH := n_upR p7.2 x0 1 a5
  let a9 : Nat := n_n h8.1 + 1
  let h10 : nH := n_alloc h8 7 4
  n_chk (Nat.blt 0 a9) <|
  (fX7_init a9 (8 : Int32) (2 : Int32) h10).bind fun p11 =>
  n_chk (Nat.beq (n_kd p11.2.1 x0) 10) <|
  let h12 : nH := n_upR p11.2 x0 2 a9
  let a13 : Nat := n_n h12.1 + 1
  let h14 : nH := n_alloc h12 7 4
  n_chk (Nat.blt 0 a13) <|
  (fX7_init a13 (12 : Int32) (2 : Int32) h14).bind fun p15 =>
  n_chk (Nat.beq (n_kd p15.2.1 x0) 10) <|
  let h16 : nH := n_upR p15.2 x0 3 a13
  let a17 : Nat := n_n h16.1 + 1
  let h18 : nH := n_alloc h16 7 4
  n_chk (Nat.blt 0 a17) <|
  (fX7_init a17 (10 : Int32) (3 : Int32) h18).bind fun p19 =>
  n_chk (Nat.beq (n_kd p19.2.1 x0) 10) <|
  let h20 : nH := n_upR p19.2 x0 4 a17
  let a21 : Nat := n_n h20.1 + 1
  let h22 : nH := n_alloc h20 7 4
  n_chk (Nat.blt 0 a21) <|
  (fX7_init a21 (6 : Int32) (1 : Int32) h22).bind fun p23 =>
  n_chk (Nat.beq (n_kd p23.2.1 x0) 10) <|
  let h24 : nH := n_upR p23.2 x0 5 a21
  fX10_init_88 N x0 x0 h24
set_option maxRecDepth 200000 in
theorem bX10_init_0 {l : Launch} {w : nW} (N : Nat) (x0 : Nat) (hh : nH) (r : Unit × nH) (h : fX10_init N x0 hh = some r) : n_At l w 1 mX10_init 0 [(0, .ref x0)] [] hh (dv_v r.1, r.2) :=
  n_segd (K := [(88, fun lv st hh => n_lR lv 0 (fun x0 => n_pR st (fun s0 st => n_pE st (fX10_init_88 N x0 s0 hh))))]) (fin := fun r => (dv_v r.1, r.2)) 48 (iX10_init N) (n_kcd (fun lv st hh r h => by
      obtain ⟨x0, e0, h1⟩ := n_lR_x h
      obtain ⟨s0, t0, rfl, h2⟩ := n_pR_x h1
      obtain ⟨rfl, h3⟩ := n_pE_x h2
      exact n_sub (n_qc e0 n_qe) (bX10_init_88 N x0 s0 hh r h3)) n_ked) (by rfl) h
theorem eX10_init {l : Launch} {w : nW} (N : Nat) (z0 : Nat) (hh : nH) (r : Unit × nH) (h : fX10_init N z0 hh = some r) : n_Met l w 1 mX10_init [.ref z0] hh (dv_v r.1, r.2) :=
  n_entry (by decide +kernel) rfl (Nat.le_of_ble_eq_true rfl) (n_sub (lv := [(0, .ref z0)]) (n_qc rfl n_qe) (bX10_init_0 N z0 hh r h))
abbrev hX10_init (N : Nat) : nFd := fun T as hh k => n_pR as (fun z0 as => n_pE as ((fX10_init N z0 hh).bind fun p => k (dv_v p.1) p.2))
theorem csX10_init {l : Launch} {w : nW} (N : Nat) : n_CSd l w 1 mX10_init (hX10_init N) := fun T as hh k r h => by
  obtain ⟨z0, t0, rfl, h1⟩ := n_pR_x h
  obtain ⟨rfl, hE⟩ := n_pE_x h1
  obtain ⟨p, hp, hk⟩ := Option.bind_eq_some_iff.mp hE
  exact ⟨_, _, eX10_init N z0 hh p hp, hk⟩
/-! ===== SleightHouse$House.<init>()V ===== -/
def mX1_init : nY := (RX1, yX1_init, cX1_init, 1, none)
theorem okX1_init : n_MOK mX1_init 0 := ⟨w_171, w_138, ⟨by decide +kernel, by decide +kernel, by decide +kernel⟩, by decide⟩
abbrev aX1_init_0 (N : Nat) : List (Nat × nD (Unit × nH)) := [(0, o_up (fun G => o_aload 0 1)), (1, o_up (fun G => o_objI 4)), (4, o_up (fun G => o_aload 0 5)), (5, o_new 8 7 8), (8, o_up (fun G => o_dup 9)), (9, o_callI 0 (hX8_init N) 12), (12, o_putR 1 0 15), (15, o_up (fun G => o_aload 0 16)), (16, o_new 4 12 19), (19, o_up (fun G => o_dup 20)), (20, o_up (fun G => o_push (.int (0 : Int32)) 21)), (21, o_callI 1 (hX4_init) 24), (24, o_putR 1 1 27), (27, o_up (fun G => o_aload 0 28)), (28, o_new 7 4 31), (31, o_up (fun G => o_dup 32)), (32, o_up (fun G => o_push (.int (150 : Int32)) 35)), (35, o_up (fun G => o_push (.int (4 : Int32)) 36)), (36, o_callI 2 (hX7_init) 39), (39, o_putR 1 2 42), (42, o_up (fun G => o_aload 0 43)), (43, o_new 3 7 46), (46, o_up (fun G => o_dup 47)), (47, o_callI 0 (hX3_init) 50), (50, o_putR 1 3 53), (53, o_up (fun G => o_aload 0 54)), (54, o_new 7 4 57), (57, o_up (fun G => o_dup 58)), (58, o_up (fun G => o_push (.int (16 : Int32)) 60)), (60, o_up (fun G => o_push (.int (4 : Int32)) 61)), (61, o_callI 2 (hX7_init) 64), (64, o_putR 1 4 67), (67, o_up (fun G => o_aload 0 68)), (68, o_new 7 4 71), (71, o_up (fun G => o_dup 72)), (72, o_up (fun G => o_push (.int (16 : Int32)) 74)), (74, o_up (fun G => o_push (.int (4 : Int32)) 75)), (75, o_callI 2 (hX7_init) 78), (78, o_putR 1 5 81), (81, o_up (fun G => o_aload 0 82))]
set_option maxRecDepth 200000 in
theorem iX1_init_0 {l : Launch} {w : nW} (N : Nat) : n_AllD l w 2 mX1_init (fun r => (dv_v r.1, r.2)) (aX1_init_0 N) :=
  n_cd (s_up fun G => s_aload_n (pc := 0) (k := 0) (by decide +kernel)) <|
  n_cd (s_up fun G => s_objI (pc := 1) w_172 w_165 w_166 (by decide +kernel)) <|
  n_cd (s_up fun G => s_aload_n (pc := 4) (k := 0) (by decide +kernel)) <|
  n_cd (s_new (pc := 5) nok8 ndf8 w_173 w_174 w_139 (by decide +kernel)) <|
  n_cd (s_up fun G => s_dup (pc := 8) (by decide +kernel)) <|
  n_cd (s_callI (pc := 9) (idx := 11) (csX8_init N) (by decide) okX8_init rfl rfl w_176 w_175 (by decide +kernel)) <|
  n_cd (s_putRF (pc := 12) (ci := 1) (k := 0) (idx := 12) nok1 (by decide) rfl rfl rfl rfl (by decide +kernel) w_402) <|
  n_cd (s_up fun G => s_aload_n (pc := 15) (k := 0) (by decide +kernel)) <|
  n_cd (s_new (pc := 16) nok4 ndf4 w_222 w_223 w_141 (by decide +kernel)) <|
  n_cd (s_up fun G => s_dup (pc := 19) (by decide +kernel)) <|
  n_cd (s_up fun G => s_iconst (pc := 20) (n := 0) (by decide +kernel) (by decide +kernel)) <|
  n_cd (s_callI (pc := 21) (idx := 20) (csX4_init) (by decide) okX4_init rfl rfl w_225 w_224 (by decide +kernel)) <|
  n_cd (s_putRF (pc := 24) (ci := 1) (k := 1) (idx := 23) nok1 (by decide) rfl rfl rfl rfl (by decide +kernel) w_405) <|
  n_cd (s_up fun G => s_aload_n (pc := 27) (k := 0) (by decide +kernel)) <|
  n_cd (s_new (pc := 28) nok7 ndf7 w_288 w_289 w_142 (by decide +kernel)) <|
  n_cd (s_up fun G => s_dup (pc := 31) (by decide +kernel)) <|
  n_cd (s_up fun G => s_sipush (pc := 32) (n := 150) (by decide +kernel) (by decide +kernel)) <|
  n_cd (s_up fun G => s_iconst (pc := 35) (n := 4) (by decide +kernel) (by decide +kernel)) <|
  n_cd (s_callI (pc := 36) (idx := 29) (csX7_init) (by decide) okX7_init rfl rfl w_291 w_290 (by decide +kernel)) <|
  n_cd (s_putRF (pc := 39) (ci := 1) (k := 2) (idx := 32) nok1 (by decide) rfl rfl rfl rfl (by decide +kernel) w_407) <|
  n_cd (s_up fun G => s_aload_n (pc := 42) (k := 0) (by decide +kernel)) <|
  n_cd (s_new (pc := 43) nok3 ndf3 w_319 w_320 w_144 (by decide +kernel)) <|
  n_cd (s_up fun G => s_dup (pc := 46) (by decide +kernel)) <|
  n_cd (s_callIN (pc := 47) (idx := 38) (host := RX11) (csX3_init) (by decide) okX3_init rfl rfl w_322 (by decide +kernel) (by decide +kernel)) <|
  n_cd (s_putRF (pc := 50) (ci := 1) (k := 3) (idx := 39) nok1 (by decide) rfl rfl rfl rfl (by decide +kernel) w_410) <|
  n_cd (s_up fun G => s_aload_n (pc := 53) (k := 0) (by decide +kernel)) <|
  n_cd (s_new (pc := 54) nok7 ndf7 w_288 w_289 w_142 (by decide +kernel)) <|
  n_cd (s_up fun G => s_dup (pc := 57) (by decide +kernel)) <|
  n_cd (s_up fun G => s_bipush (pc := 58) (n := 16) (by decide +kernel) (by decide +kernel)) <|
  n_cd (s_up fun G => s_iconst (pc := 60) (n := 4) (by decide +kernel) (by decide +kernel)) <|
  n_cd (s_callI (pc := 61) (idx := 29) (csX7_init) (by decide) okX7_init rfl rfl w_291 w_290 (by decide +kernel)) <|
  n_cd (s_putRF (pc := 64) (ci := 1) (k := 4) (idx := 43) nok1 (by decide) rfl rfl rfl rfl (by decide +kernel) w_413) <|
  n_cd (s_up fun G => s_aload_n (pc := 67) (k := 0) (by decide +kernel)) <|
  n_cd (s_new (pc := 68) nok7 ndf7 w_288 w_289 w_142 (by decide +kernel)) <|
  n_cd (s_up fun G => s_dup (pc := 71) (by decide +kernel)) <|
  n_cd (s_up fun G => s_bipush (pc := 72) (n := 16) (by decide +kernel) (by decide +kernel)) <|
  n_cd (s_up fun G => s_iconst (pc := 74) (n := 4) (by decide +kernel) (by decide +kernel)) <|
  n_cd (s_callI (pc := 75) (idx := 29) (csX7_init) (by decide) okX7_init rfl rfl w_291 w_290 (by decide +kernel)) <|
  n_cd (s_putRF (pc := 78) (ci := 1) (k := 5) (idx := 46) nok1 (by decide) rfl rfl rfl rfl (by decide +kernel) w_416) <|
  n_cd (s_up fun G => s_aload_n (pc := 81) (k := 0) (by decide +kernel)) <|
  n_ed
abbrev aX1_init_1 (N : Nat) : List (Nat × nD (Unit × nH)) := [(82, o_new 7 4 85), (85, o_up (fun G => o_dup 86)), (86, o_up (fun G => o_push (.int (16 : Int32)) 88)), (88, o_up (fun G => o_push (.int (4 : Int32)) 89)), (89, o_callI 2 (hX7_init) 92), (92, o_putR 1 6 95), (95, o_up (fun G => o_aload 0 96)), (96, o_new 10 9 99), (99, o_up (fun G => o_dup 100)), (100, o_callI 0 (hX10_init N) 103), (103, o_putR 1 7 106), (106, o_vretd)]
set_option maxRecDepth 200000 in
theorem iX1_init_1 {l : Launch} {w : nW} (N : Nat) : n_AllD l w 2 mX1_init (fun r => (dv_v r.1, r.2)) (aX1_init_1 N) :=
  n_cd (s_new (pc := 82) nok7 ndf7 w_288 w_289 w_142 (by decide +kernel)) <|
  n_cd (s_up fun G => s_dup (pc := 85) (by decide +kernel)) <|
  n_cd (s_up fun G => s_bipush (pc := 86) (n := 16) (by decide +kernel) (by decide +kernel)) <|
  n_cd (s_up fun G => s_iconst (pc := 88) (n := 4) (by decide +kernel) (by decide +kernel)) <|
  n_cd (s_callI (pc := 89) (idx := 29) (csX7_init) (by decide) okX7_init rfl rfl w_291 w_290 (by decide +kernel)) <|
  n_cd (s_putRF (pc := 92) (ci := 1) (k := 6) (idx := 49) nok1 (by decide) rfl rfl rfl rfl (by decide +kernel) w_419) <|
  n_cd (s_up fun G => s_aload_n (pc := 95) (k := 0) (by decide +kernel)) <|
  n_cd (s_new (pc := 96) nok10 ndf10 w_348 w_349 w_145 (by decide +kernel)) <|
  n_cd (s_up fun G => s_dup (pc := 99) (by decide +kernel)) <|
  n_cd (s_callI (pc := 100) (idx := 54) (csX10_init N) (by decide) okX10_init rfl rfl w_351 w_350 (by decide +kernel)) <|
  n_cd (s_putRF (pc := 103) (ci := 1) (k := 7) (idx := 55) nok1 (by decide) rfl rfl rfl rfl (by decide +kernel) w_422) <|
  n_cd (s_vretd (pc := 106) rfl (by decide +kernel)) <|
  n_ed
abbrev aX1_init (N : Nat) : List (Nat × nD (Unit × nH)) := aX1_init_0 N ++ (aX1_init_1 N)
theorem iX1_init {l : Launch} {w : nW} (N : Nat) : n_AllD l w 2 mX1_init (fun r => (dv_v r.1, r.2)) (aX1_init N) := (n_AllD.app (iX1_init_0 N) (iX1_init_1 N))
def fX1_init_92 (N : Nat) (x0 : Nat) (s0 : Nat) (s1 : Nat) (hh : nH) : Option (Unit × nH) :=
  n_chk (Nat.beq (n_kd hh.1 s1) 1) <|
  let h1 : nH := n_upR hh s1 6 s0
  let a2 : Nat := n_n h1.1 + 1
  let h3 : nH := n_alloc h1 10 9
  n_chk (Nat.blt 0 a2) <|
  (fX10_init N a2 h3).bind fun p4 =>
  n_chk (Nat.beq (n_kd p4.2.1 x0) 1) <|
  let h5 : nH := n_upR p4.2 x0 7 a2
  some ((), h5)
set_option maxRecDepth 200000 in
theorem bX1_init_92 {l : Launch} {w : nW} (N : Nat) (x0 : Nat) (s0 : Nat) (s1 : Nat) (hh : nH) (r : Unit × nH) (h : fX1_init_92 N x0 s0 s1 hh = some r) : n_At l w 2 mX1_init 92 [(0, .ref x0)] [.ref s0, .ref s1] hh (dv_v r.1, r.2) :=
  n_segd (K := []) (fin := fun r => (dv_v r.1, r.2)) 10 (iX1_init N) n_ked (by rfl) h
def fX1_init (N : Nat) (x0 : Nat) (hh : nH) : Option (Unit × nH) :=
  n_chk (Nat.blt 0 x0 && true) <|
  let a1 : Nat := n_n hh.1 + 1
  let h2 : nH := n_alloc hh 8 7
  n_chk (Nat.blt 0 a1) <|
  (fX8_init N a1 h2).bind fun p3 =>
  n_chk (Nat.beq (n_kd p3.2.1 x0) 1) <|
  let h4 : nH := n_upR p3.2 x0 0 a1
  let a5 : Nat := n_n h4.1 + 1
  let h6 : nH := n_alloc h4 4 12
  n_chk (Nat.blt 0 a5) <|
  (fX4_init a5 (0 : Int32) h6).bind fun p7 =>
  n_chk (Nat.beq (n_kd p7.2.1 x0) 1) <|
  let h8 : nH := n_upR p7.2 x0 1 a5
  let a9 : Nat := n_n h8.1 + 1
  let h10 : nH := n_alloc h8 7 4
  n_chk (Nat.blt 0 a9) <|
  (fX7_init a9 (150 : Int32) (4 : Int32) h10).bind fun p11 =>
  n_chk (Nat.beq (n_kd p11.2.1 x0) 1) <|
  let h12 : nH := n_upR p11.2 x0 2 a9
  let a13 : Nat := n_n h12.1 + 1
  let h14 : nH := n_alloc h12 3 7
  n_chk (Nat.blt 0 a13) <|
  (fX3_init a13 h14).bind fun p15 =>
  n_chk (Nat.beq (n_kd p15.2.1 x0) 1) <|
  let h16 : nH := n_upR p15.2 x0 3 a13
  let a17 : Nat := n_n h16.1 + 1
  let h18 : nH := n_alloc h16 7 4
  n_chk (Nat.blt 0 a17) <|
  (fX7_init a17 (16 : Int32) (4 : Int32) h18).bind fun p19 =>
  n_chk (Nat.beq (n_kd p19.2.1 x0) 1) <|
  let h20 : nH := n_upR p19.2 x0 4 a17
  let a21 : Nat := n_n h20.1 + 1
  let h22 : nH := n_alloc h20 7 4
  n_chk (Nat.blt 0 a21) <|
  (fX7_init a21 (16 : Int32) (4 : Int32) h22).bind fun p23 =>
  n_chk (Nat.beq (n_kd p23.2.1 x0) 1) <|
  let h24 : nH := n_upR p23.2 x0 5 a21
  let a25 : Nat := n_n h24.1 + 1
  let h26 : nH := n_alloc h24 7 4
  n_chk (Nat.blt 0 a25) <|
  (fX7_init a25 (16 : Int32) (4 : Int32) h26).bind fun p27 =>
  fX1_init_92 N x0 a25 x0 p27.2
set_option maxRecDepth 200000 in
theorem bX1_init_0 {l : Launch} {w : nW} (N : Nat) (x0 : Nat) (hh : nH) (r : Unit × nH) (h : fX1_init N x0 hh = some r) : n_At l w 2 mX1_init 0 [(0, .ref x0)] [] hh (dv_v r.1, r.2) :=
  n_segd (K := [(92, fun lv st hh => n_lR lv 0 (fun x0 => n_pR st (fun s0 st => n_pR st (fun s1 st => n_pE st (fX1_init_92 N x0 s0 s1 hh)))))]) (fin := fun r => (dv_v r.1, r.2)) 48 (iX1_init N) (n_kcd (fun lv st hh r h => by
      obtain ⟨x0, e0, h1⟩ := n_lR_x h
      obtain ⟨s0, t0, rfl, h2⟩ := n_pR_x h1
      obtain ⟨s1, t1, rfl, h3⟩ := n_pR_x h2
      obtain ⟨rfl, h4⟩ := n_pE_x h3
      exact n_sub (n_qc e0 n_qe) (bX1_init_92 N x0 s0 s1 hh r h4)) n_ked) (by rfl) h
theorem eX1_init {l : Launch} {w : nW} (N : Nat) (z0 : Nat) (hh : nH) (r : Unit × nH) (h : fX1_init N z0 hh = some r) : n_Met l w 2 mX1_init [.ref z0] hh (dv_v r.1, r.2) :=
  n_entry (by decide +kernel) rfl (Nat.le_of_ble_eq_true rfl) (n_sub (lv := [(0, .ref z0)]) (n_qc rfl n_qe) (bX1_init_0 N z0 hh r h))
abbrev hX1_init (N : Nat) : nFd := fun T as hh k => n_pR as (fun z0 as => n_pE as ((fX1_init N z0 hh).bind fun p => k (dv_v p.1) p.2))
theorem csX1_init {l : Launch} {w : nW} (N : Nat) : n_CSd l w 2 mX1_init (hX1_init N) := fun T as hh k r h => by
  obtain ⟨z0, t0, rfl, h1⟩ := n_pR_x h
  obtain ⟨rfl, hE⟩ := n_pE_x h1
  obtain ⟨p, hp, hk⟩ := Option.bind_eq_some_iff.mp hE
  exact ⟨_, _, eX1_init N z0 hh p hp, hk⟩
/-! ===== SleightHouse$Doings.<init>(LSleightHouse$House;)V ===== -/
def mX0_init : nY := (RX0, yX0_init, cX0_init, 2, none)
theorem okX0_init : n_MOK mX0_init 1 := ⟨w_444, w_146, ⟨by decide +kernel, by decide +kernel, by decide +kernel⟩, by decide⟩
abbrev aX0_init_0 : List (Nat × nD (Unit × nH)) := [(0, o_up (fun G => o_aload 0 1)), (1, o_up (fun G => o_objI 4)), (4, o_up (fun G => o_aload 0 5)), (5, o_up (fun G => o_push (.int (11 : Int32)) 7)), (7, o_newa 14 4 9), (9, o_putR 0 1 12), (12, o_up (fun G => o_aload 0 13)), (13, o_up (fun G => o_push (.int (48 : Int32)) 15)), (15, o_newa 14 4 17), (17, o_putR 0 2 20), (20, o_up (fun G => o_aload 0 21)), (21, o_up (fun G => o_aload 1 22)), (22, o_putR 0 0 25), (25, o_vretd)]
set_option maxRecDepth 200000 in
theorem iX0_init_0 {l : Launch} {w : nW} : n_AllD l w 0 mX0_init (fun r => (dv_v r.1, r.2)) (aX0_init_0) :=
  n_cd (s_up fun G => s_aload_n (pc := 0) (k := 0) (by decide +kernel)) <|
  n_cd (s_up fun G => s_objI (pc := 1) w_445 w_165 w_166 (by decide +kernel)) <|
  n_cd (s_up fun G => s_aload_n (pc := 4) (k := 0) (by decide +kernel)) <|
  n_cd (s_up fun G => s_bipush (pc := 5) (n := 11) (by decide +kernel) (by decide +kernel)) <|
  n_cd (s_newI (pc := 7) w_221 (by decide +kernel)) <|
  n_cd (s_putRF (pc := 9) (ci := 0) (k := 1) (idx := 11) nok0 (by decide) rfl rfl rfl rfl (by decide +kernel) w_447) <|
  n_cd (s_up fun G => s_aload_n (pc := 12) (k := 0) (by decide +kernel)) <|
  n_cd (s_up fun G => s_bipush (pc := 13) (n := 48) (by decide +kernel) (by decide +kernel)) <|
  n_cd (s_newI (pc := 15) w_221 (by decide +kernel)) <|
  n_cd (s_putRF (pc := 17) (ci := 0) (k := 2) (idx := 17) nok0 (by decide) rfl rfl rfl rfl (by decide +kernel) w_448) <|
  n_cd (s_up fun G => s_aload_n (pc := 20) (k := 0) (by decide +kernel)) <|
  n_cd (s_up fun G => s_aload_n (pc := 21) (k := 1) (by decide +kernel)) <|
  n_cd (s_putRF (pc := 22) (ci := 0) (k := 0) (idx := 20) nok0 (by decide) rfl rfl rfl rfl (by decide +kernel) w_446) <|
  n_cd (s_vretd (pc := 25) rfl (by decide +kernel)) <|
  n_ed
abbrev aX0_init : List (Nat × nD (Unit × nH)) := aX0_init_0
theorem iX0_init {l : Launch} {w : nW} : n_AllD l w 0 mX0_init (fun r => (dv_v r.1, r.2)) (aX0_init) := (iX0_init_0)
def fX0_init (x0 : Nat) (x1 : Nat) (hh : nH) : Option (Unit × nH) :=
  n_chk (Nat.blt 0 x0 && true) <|
  n_chk (!decide ((11 : Int32) < 0) && Nat.ble ((11 : Int32).toNatClampNeg * 4) 536870912) <|
  let a1 : Nat := n_n hh.1 + 1
  let h2 : nH := n_alloc hh 14 (11 : Int32).toNatClampNeg
  n_chk (Nat.beq (n_kd h2.1 x0) 0) <|
  let h3 : nH := n_upR h2 x0 1 a1
  n_chk (!decide ((48 : Int32) < 0) && Nat.ble ((48 : Int32).toNatClampNeg * 4) 536870912) <|
  let a4 : Nat := n_n h3.1 + 1
  let h5 : nH := n_alloc h3 14 (48 : Int32).toNatClampNeg
  n_chk (Nat.beq (n_kd h5.1 x0) 0) <|
  let h6 : nH := n_upR h5 x0 2 a4
  n_chk (Nat.beq (n_kd h6.1 x0) 0) <|
  let h7 : nH := n_upR h6 x0 0 x1
  some ((), h7)
set_option maxRecDepth 200000 in
theorem bX0_init_0 {l : Launch} {w : nW} (x0 : Nat) (x1 : Nat) (hh : nH) (r : Unit × nH) (h : fX0_init x0 x1 hh = some r) : n_At l w 0 mX0_init 0 [(0, .ref x0), (1, .ref x1)] [] hh (dv_v r.1, r.2) :=
  n_segd (K := []) (fin := fun r => (dv_v r.1, r.2)) 17 (iX0_init) n_ked (by rfl) h
theorem eX0_init {l : Launch} {w : nW} (z0 : Nat) (z1 : Nat) (hh : nH) (r : Unit × nH) (h : fX0_init z0 z1 hh = some r) : n_Met l w 0 mX0_init [.ref z0, .ref z1] hh (dv_v r.1, r.2) :=
  n_entry (by decide +kernel) rfl (Nat.le_of_ble_eq_true rfl) (n_sub (lv := [(0, .ref z0), (1, .ref z1)]) (n_qc rfl (n_qc rfl n_qe)) (bX0_init_0 z0 z1 hh r h))
abbrev hX0_init : nFd := fun T as hh k => n_pR as (fun z0 as => n_pR as (fun z1 as => n_pE as ((fX0_init z0 z1 hh).bind fun p => k (dv_v p.1) p.2)))
theorem csX0_init {l : Launch} {w : nW} : n_CSd l w 0 mX0_init (hX0_init) := fun T as hh k r h => by
  obtain ⟨z0, t0, rfl, h1⟩ := n_pR_x h
  obtain ⟨z1, t1, rfl, h2⟩ := n_pR_x h1
  obtain ⟨rfl, hE⟩ := n_pE_x h2
  obtain ⟨p, hp, hk⟩ := Option.bind_eq_some_iff.mp hE
  exact ⟨_, _, eX0_init z0 z1 hh p hp, hk⟩
/-! ===== SleightHouse$Past.<init>()V ===== -/
def mX5_init : nY := (RX5, yX5_init, cX5_init, 2, none)
theorem okX5_init : n_MOK mX5_init 0 := ⟨w_460, w_147, ⟨by decide +kernel, by decide +kernel, by decide +kernel⟩, by decide⟩
abbrev aX5_init_0 (N : Nat) : List (Nat × nD (Unit × nH)) := [(0, o_up (fun G => o_aload 0 1)), (1, o_up (fun G => o_objI 4)), (4, o_up (fun G => o_aload 0 5)), (5, o_up (fun G => o_push (.int (6 : Int32)) 7)), (7, o_newa 15 4 10), (10, o_putR 5 0 13), (13, o_up (fun G => o_aload 0 14)), (14, o_up (fun G => o_push (.int (0 : Int32)) 15)), (15, o_up (fun G => o_putI G 5 1 18)), (18, o_up (fun G => o_aload 0 19)), (19, o_up (fun G => o_push (.int (0 : Int32)) 20)), (20, o_up (fun G => o_putI G 5 2 23)), (23, o_up (fun G => o_push (.int (0 : Int32)) 24)), (24, o_up (fun G => o_istore 2 1 25)), (25, o_up (fun G => o_iload 1 26)), (26, o_up (fun G => o_push (.int (6 : Int32)) 28)), (28, o_up (fun G => oc_ge 51 31)), (31, o_up (fun G => o_aload 0 32)), (32, o_up (fun G => o_getR G 5 0 35)), (35, o_up (fun G => o_iload 1 36)), (36, o_new 4 12 39), (39, o_up (fun G => o_dup 40)), (40, o_up (fun G => o_push (.int (0 : Int32)) 41)), (41, o_callI 1 (hX4_init) 44), (44, o_aast 45), (45, o_up (fun G => o_inc 2 1 (1 : Int32) 48)), (48, o_up (fun G => o_goto 25)), (51, o_vretd)]
set_option maxRecDepth 200000 in
theorem iX5_init_0 {l : Launch} {w : nW} (N : Nat) : n_AllD l w 1 mX5_init (fun r => (dv_v r.1, r.2)) (aX5_init_0 N) :=
  n_cd (s_up fun G => s_aload_n (pc := 0) (k := 0) (by decide +kernel)) <|
  n_cd (s_up fun G => s_objI (pc := 1) w_461 w_165 w_166 (by decide +kernel)) <|
  n_cd (s_up fun G => s_aload_n (pc := 4) (k := 0) (by decide +kernel)) <|
  n_cd (s_up fun G => s_bipush (pc := 5) (n := 6) (by decide +kernel) (by decide +kernel)) <|
  n_cd (s_newO (pc := 7) w_462 (by decide +kernel)) <|
  n_cd (s_putRF (pc := 10) (ci := 5) (k := 0) (idx := 11) nok5 (by decide) rfl rfl rfl rfl (by decide +kernel) w_465) <|
  n_cd (s_up fun G => s_aload_n (pc := 13) (k := 0) (by decide +kernel)) <|
  n_cd (s_up fun G => s_iconst (pc := 14) (n := 0) (by decide +kernel) (by decide +kernel)) <|
  n_cd (s_up fun G => s_putI (pc := 15) (ci := 5) (k := 1) (idx := 17) nok5 (by decide) rfl rfl (by decide +kernel) w_466) <|
  n_cd (s_up fun G => s_aload_n (pc := 18) (k := 0) (by decide +kernel)) <|
  n_cd (s_up fun G => s_iconst (pc := 19) (n := 0) (by decide +kernel) (by decide +kernel)) <|
  n_cd (s_up fun G => s_putI (pc := 20) (ci := 5) (k := 2) (idx := 21) nok5 (by decide) rfl rfl (by decide +kernel) w_467) <|
  n_cd (s_up fun G => s_iconst (pc := 23) (n := 0) (by decide +kernel) (by decide +kernel)) <|
  n_cd (s_up fun G => s_istore_n (pc := 24) (k := 1) (by decide +kernel)) <|
  n_cd (s_up fun G => s_iload_n (pc := 25) (k := 1) (by decide +kernel)) <|
  n_cd (s_up fun G => s_bipush (pc := 26) (n := 6) (by decide +kernel) (by decide +kernel)) <|
  n_cd (s_up fun G => s_icmp_ge (pc := 28) (off := 23) (by decide +kernel) (by decide +kernel)) <|
  n_cd (s_up fun G => s_aload_n (pc := 31) (k := 0) (by decide +kernel)) <|
  n_cd (s_up fun G => s_getR (pc := 32) (ci := 5) (k := 0) (idx := 11) nok5 (by decide) rfl (by decide +kernel) w_465) <|
  n_cd (s_up fun G => s_iload_n (pc := 35) (k := 1) (by decide +kernel)) <|
  n_cd (s_new (pc := 36) nok4 ndf4 w_462 w_223 w_141 (by decide +kernel)) <|
  n_cd (s_up fun G => s_dup (pc := 39) (by decide +kernel)) <|
  n_cd (s_up fun G => s_iconst (pc := 40) (n := 0) (by decide +kernel) (by decide +kernel)) <|
  n_cd (s_callI (pc := 41) (idx := 24) (csX4_init) (by decide) okX4_init rfl rfl w_225 w_464 (by decide +kernel)) <|
  n_cd (s_aastore (pc := 44) (by decide +kernel) nok4) <|
  n_cd (s_up fun G => s_iinc (pc := 45) (n := 1) (by decide +kernel) (by decide +kernel)) <|
  n_cd (s_up fun G => s_goto (pc := 48) (off := -23) (by decide +kernel) (by decide +kernel)) <|
  n_cd (s_vretd (pc := 51) rfl (by decide +kernel)) <|
  n_ed
abbrev aX5_init (N : Nat) : List (Nat × nD (Unit × nH)) := aX5_init_0 N
theorem iX5_init {l : Launch} {w : nW} (N : Nat) : n_AllD l w 1 mX5_init (fun r => (dv_v r.1, r.2)) (aX5_init N) := (iX5_init_0 N)
def fX5_init_25 (N : Nat) : Nat → Nat → Int32 → nH → Option (Unit × nH)
  | 0, _, _, _ => none
  | n + 1, x0, x1, hh =>
    if (6 : Int32) ≤ x1 then
      some ((), hh)
    else
      n_chk (Nat.beq (n_kd hh.1 x0) 5) <|
      let a1 : Nat := n_mr hh.1 x0 0
      let a2 : Nat := n_n hh.1 + 1
      let h3 : nH := n_alloc hh 4 12
      n_chk (Nat.blt 0 a2) <|
      (fX4_init a2 (0 : Int32) h3).bind fun p4 =>
      n_chk (n_in p4.2.1 15 a1 x1 && Nat.beq (n_kd p4.2.1 a2) 4) <|
      let h5 : nH := n_upR p4.2 a1 x1.toNatClampNeg a2
      let v6 : Int32 := (x1 + (1 : Int32))
      fX5_init_25 N n x0 v6 h5
set_option maxRecDepth 200000 in
theorem bX5_init_25 {l : Launch} {w : nW} (N : Nat) : ∀ (n : Nat) (x0 : Nat) (x1 : Int32) (hh : nH) (r : Unit × nH), fX5_init_25 N n x0 x1 hh = some r → n_At l w 1 mX5_init 25 [(0, .ref x0), (1, .int x1)] [] hh (dv_v r.1, r.2) := by
  intro n
  induction n with
  | zero => intro x0 x1 hh r h; cases (show (none : Option (Unit × nH)) = some r from h)
  | succ n ih =>
    intro x0 x1 hh r h
    exact n_segd (K := [(25, fun lv st hh => n_lR lv 0 (fun x0 => n_lI lv 1 (fun x1 => n_pE st (fX5_init_25 N n x0 x1 hh))))]) (fin := fun r => (dv_v r.1, r.2)) (pc := 25) (lv := [(0, .ref x0), (1, .int x1)]) (st := []) (h := hh) (r := r) 17 (iX5_init N) (n_kcd (fun lv st hh r h => by
      obtain ⟨x0, e0, h1⟩ := n_lR_x h
      obtain ⟨x1, e1, h2⟩ := n_lI_x h1
      obtain ⟨rfl, h3⟩ := n_pE_x h2
      exact n_sub (n_qc e0 (n_qc e1 n_qe)) (ih x0 x1 hh r h3)) n_ked) (by rfl) h
def fX5_init (N : Nat) (x0 : Nat) (hh : nH) : Option (Unit × nH) :=
  n_chk (Nat.blt 0 x0 && true) <|
  n_chk (!decide ((6 : Int32) < 0) && Nat.ble ((6 : Int32).toNatClampNeg * 4) 536870912) <|
  let a1 : Nat := n_n hh.1 + 1
  let h2 : nH := n_alloc hh 15 (6 : Int32).toNatClampNeg
  n_chk (Nat.beq (n_kd h2.1 x0) 5) <|
  let h3 : nH := n_upR h2 x0 0 a1
  n_chk (Nat.beq (n_kd h3.1 x0) 5) <|
  let h4 : nH := (h3.1, n_up h3.2 x0 1 (0 : Int32))
  n_chk (Nat.beq (n_kd h4.1 x0) 5) <|
  let h5 : nH := (h4.1, n_up h4.2 x0 2 (0 : Int32))
  fX5_init_25 N N x0 (0 : Int32) h5
set_option maxRecDepth 200000 in
theorem bX5_init_0 {l : Launch} {w : nW} (N : Nat) (x0 : Nat) (hh : nH) (r : Unit × nH) (h : fX5_init N x0 hh = some r) : n_At l w 1 mX5_init 0 [(0, .ref x0)] [] hh (dv_v r.1, r.2) :=
  n_segd (K := [(25, fun lv st hh => n_lR lv 0 (fun x0 => n_lI lv 1 (fun x1 => n_pE st (fX5_init_25 N N x0 x1 hh))))]) (fin := fun r => (dv_v r.1, r.2)) 17 (iX5_init N) (n_kcd (fun lv st hh r h => by
      obtain ⟨x0, e0, h1⟩ := n_lR_x h
      obtain ⟨x1, e1, h2⟩ := n_lI_x h1
      obtain ⟨rfl, h3⟩ := n_pE_x h2
      exact n_sub (n_qc e0 (n_qc e1 n_qe)) (bX5_init_25 N N x0 x1 hh r h3)) n_ked) (by rfl) h
theorem eX5_init {l : Launch} {w : nW} (N : Nat) (z0 : Nat) (hh : nH) (r : Unit × nH) (h : fX5_init N z0 hh = some r) : n_Met l w 1 mX5_init [.ref z0] hh (dv_v r.1, r.2) :=
  n_entry (by decide +kernel) rfl (Nat.le_of_ble_eq_true rfl) (n_sub (lv := [(0, .ref z0)]) (n_qc rfl n_qe) (bX5_init_0 N z0 hh r h))
abbrev hX5_init (N : Nat) : nFd := fun T as hh k => n_pR as (fun z0 as => n_pE as ((fX5_init N z0 hh).bind fun p => k (dv_v p.1) p.2))
theorem csX5_init {l : Launch} {w : nW} (N : Nat) : n_CSd l w 1 mX5_init (hX5_init N) := fun T as hh k r h => by
  obtain ⟨z0, t0, rfl, h1⟩ := n_pR_x h
  obtain ⟨rfl, hE⟩ := n_pE_x h1
  obtain ⟨p, hp, hk⟩ := Option.bind_eq_some_iff.mp hE
  exact ⟨_, _, eX5_init N z0 hh p hp, hk⟩
/-! ===== SleightHouse$Reader.<init>(LSleightHouse$Stock;)V ===== -/
def mX6_init : nY := (RX6, yX6_init, cX6_init, 2, none)
theorem okX6_init : n_MOK mX6_init 1 := ⟨w_480, w_148, ⟨by decide +kernel, by decide +kernel, by decide +kernel⟩, by decide⟩
abbrev aX6_init_0 : List (Nat × nD (Unit × nH)) := [(0, o_up (fun G => o_aload 0 1)), (1, o_up (fun G => o_objI 4)), (4, o_up (fun G => o_aload 0 5)), (5, o_up (fun G => o_push (.int (400 : Int32)) 8)), (8, o_newa 13 1 10), (10, o_putR 6 1 13), (13, o_up (fun G => o_aload 0 14)), (14, o_up (fun G => o_push (.int (401 : Int32)) 17)), (17, o_newa 14 4 19), (19, o_putR 6 2 22), (22, o_up (fun G => o_aload 0 23)), (23, o_up (fun G => o_push (.int (401 : Int32)) 26)), (26, o_newa 14 4 28), (28, o_putR 6 3 31), (31, o_up (fun G => o_aload 0 32)), (32, o_up (fun G => o_push (.int (401 : Int32)) 35)), (35, o_newa 14 4 37), (37, o_putR 6 4 40), (40, o_up (fun G => o_aload 0 41)), (41, o_up (fun G => o_push (.int (0 : Int32)) 42)), (42, o_up (fun G => o_putI G 6 5 45)), (45, o_up (fun G => o_aload 0 46)), (46, o_up (fun G => o_push (.int (0 : Int32)) 47)), (47, o_up (fun G => o_putI G 6 6 50)), (50, o_up (fun G => o_aload 0 51)), (51, o_new 3 7 54), (54, o_up (fun G => o_dup 55)), (55, o_callI 0 (hX3_init) 58), (58, o_putR 6 7 61), (61, o_up (fun G => o_aload 0 62)), (62, o_new 7 4 65), (65, o_up (fun G => o_dup 66)), (66, o_up (fun G => o_push (.int (16 : Int32)) 68)), (68, o_up (fun G => o_push (.int (4 : Int32)) 69)), (69, o_callI 2 (hX7_init) 72), (72, o_putR 6 8 75), (75, o_up (fun G => o_aload 0 76)), (76, o_up (fun G => o_push (.int (0 : Int32)) 77)), (77, o_up (fun G => o_putI G 6 9 80)), (80, o_up (fun G => o_aload 0 81))]
set_option maxRecDepth 200000 in
theorem iX6_init_0 {l : Launch} {w : nW} : n_AllD l w 1 mX6_init (fun r => (dv_v r.1, r.2)) (aX6_init_0) :=
  n_cd (s_up fun G => s_aload_n (pc := 0) (k := 0) (by decide +kernel)) <|
  n_cd (s_up fun G => s_objI (pc := 1) w_481 w_165 w_166 (by decide +kernel)) <|
  n_cd (s_up fun G => s_aload_n (pc := 4) (k := 0) (by decide +kernel)) <|
  n_cd (s_up fun G => s_sipush (pc := 5) (n := 400) (by decide +kernel) (by decide +kernel)) <|
  n_cd (s_newB (pc := 8) w_528 (by decide +kernel)) <|
  n_cd (s_putRF (pc := 10) (ci := 6) (k := 1) (idx := 9) nok6 (by decide) rfl rfl rfl rfl (by decide +kernel) w_487) <|
  n_cd (s_up fun G => s_aload_n (pc := 13) (k := 0) (by decide +kernel)) <|
  n_cd (s_up fun G => s_sipush (pc := 14) (n := 401) (by decide +kernel) (by decide +kernel)) <|
  n_cd (s_newI (pc := 17) w_221 (by decide +kernel)) <|
  n_cd (s_putRF (pc := 19) (ci := 6) (k := 2) (idx := 15) nok6 (by decide) rfl rfl rfl rfl (by decide +kernel) w_488) <|
  n_cd (s_up fun G => s_aload_n (pc := 22) (k := 0) (by decide +kernel)) <|
  n_cd (s_up fun G => s_sipush (pc := 23) (n := 401) (by decide +kernel) (by decide +kernel)) <|
  n_cd (s_newI (pc := 26) w_221 (by decide +kernel)) <|
  n_cd (s_putRF (pc := 28) (ci := 6) (k := 3) (idx := 19) nok6 (by decide) rfl rfl rfl rfl (by decide +kernel) w_489) <|
  n_cd (s_up fun G => s_aload_n (pc := 31) (k := 0) (by decide +kernel)) <|
  n_cd (s_up fun G => s_sipush (pc := 32) (n := 401) (by decide +kernel) (by decide +kernel)) <|
  n_cd (s_newI (pc := 35) w_221 (by decide +kernel)) <|
  n_cd (s_putRF (pc := 37) (ci := 6) (k := 4) (idx := 22) nok6 (by decide) rfl rfl rfl rfl (by decide +kernel) w_490) <|
  n_cd (s_up fun G => s_aload_n (pc := 40) (k := 0) (by decide +kernel)) <|
  n_cd (s_up fun G => s_iconst (pc := 41) (n := 0) (by decide +kernel) (by decide +kernel)) <|
  n_cd (s_up fun G => s_putI (pc := 42) (ci := 6) (k := 5) (idx := 25) nok6 (by decide) rfl rfl (by decide +kernel) w_491) <|
  n_cd (s_up fun G => s_aload_n (pc := 45) (k := 0) (by decide +kernel)) <|
  n_cd (s_up fun G => s_iconst (pc := 46) (n := 0) (by decide +kernel) (by decide +kernel)) <|
  n_cd (s_up fun G => s_putI (pc := 47) (ci := 6) (k := 6) (idx := 29) nok6 (by decide) rfl rfl (by decide +kernel) w_492) <|
  n_cd (s_up fun G => s_aload_n (pc := 50) (k := 0) (by decide +kernel)) <|
  n_cd (s_new (pc := 51) nok3 ndf3 w_482 w_320 w_144 (by decide +kernel)) <|
  n_cd (s_up fun G => s_dup (pc := 54) (by decide +kernel)) <|
  n_cd (s_callIN (pc := 55) (idx := 34) (host := RX11) (csX3_init) (by decide) okX3_init rfl rfl w_322 (by decide +kernel) (by decide +kernel)) <|
  n_cd (s_putRF (pc := 58) (ci := 6) (k := 7) (idx := 35) nok6 (by decide) rfl rfl rfl rfl (by decide +kernel) w_493) <|
  n_cd (s_up fun G => s_aload_n (pc := 61) (k := 0) (by decide +kernel)) <|
  n_cd (s_new (pc := 62) nok7 ndf7 w_484 w_289 w_142 (by decide +kernel)) <|
  n_cd (s_up fun G => s_dup (pc := 65) (by decide +kernel)) <|
  n_cd (s_up fun G => s_bipush (pc := 66) (n := 16) (by decide +kernel) (by decide +kernel)) <|
  n_cd (s_up fun G => s_iconst (pc := 68) (n := 4) (by decide +kernel) (by decide +kernel)) <|
  n_cd (s_callI (pc := 69) (idx := 41) (csX7_init) (by decide) okX7_init rfl rfl w_291 w_485 (by decide +kernel)) <|
  n_cd (s_putRF (pc := 72) (ci := 6) (k := 8) (idx := 44) nok6 (by decide) rfl rfl rfl rfl (by decide +kernel) w_495) <|
  n_cd (s_up fun G => s_aload_n (pc := 75) (k := 0) (by decide +kernel)) <|
  n_cd (s_up fun G => s_iconst (pc := 76) (n := 0) (by decide +kernel) (by decide +kernel)) <|
  n_cd (s_up fun G => s_putI (pc := 77) (ci := 6) (k := 9) (idx := 48) nok6 (by decide) rfl rfl (by decide +kernel) w_497) <|
  n_cd (s_up fun G => s_aload_n (pc := 80) (k := 0) (by decide +kernel)) <|
  n_ed
abbrev aX6_init_1 : List (Nat × nD (Unit × nH)) := [(81, o_up (fun G => o_push (.int (0 : Int32)) 82)), (82, o_up (fun G => o_putI G 6 10 85)), (85, o_up (fun G => o_aload 0 86)), (86, o_up (fun G => o_push (.int (-1 : Int32)) 87)), (87, o_up (fun G => o_putI G 6 11 90)), (90, o_up (fun G => o_aload 0 91)), (91, o_up (fun G => o_aload 1 92)), (92, o_putR 6 0 95), (95, o_vretd)]
set_option maxRecDepth 200000 in
theorem iX6_init_1 {l : Launch} {w : nW} : n_AllD l w 1 mX6_init (fun r => (dv_v r.1, r.2)) (aX6_init_1) :=
  n_cd (s_up fun G => s_iconst (pc := 81) (n := 0) (by decide +kernel) (by decide +kernel)) <|
  n_cd (s_up fun G => s_putI (pc := 82) (ci := 6) (k := 10) (idx := 51) nok6 (by decide) rfl rfl (by decide +kernel) w_499) <|
  n_cd (s_up fun G => s_aload_n (pc := 85) (k := 0) (by decide +kernel)) <|
  n_cd (s_up fun G => s_iconst (pc := 86) (n := -1) (by decide +kernel) (by decide +kernel)) <|
  n_cd (s_up fun G => s_putI (pc := 87) (ci := 6) (k := 11) (idx := 54) nok6 (by decide) rfl rfl (by decide +kernel) w_501) <|
  n_cd (s_up fun G => s_aload_n (pc := 90) (k := 0) (by decide +kernel)) <|
  n_cd (s_up fun G => s_aload_n (pc := 91) (k := 1) (by decide +kernel)) <|
  n_cd (s_putRF (pc := 92) (ci := 6) (k := 0) (idx := 57) nok6 (by decide) rfl rfl rfl rfl (by decide +kernel) w_486) <|
  n_cd (s_vretd (pc := 95) rfl (by decide +kernel)) <|
  n_ed
abbrev aX6_init : List (Nat × nD (Unit × nH)) := aX6_init_0 ++ (aX6_init_1)
theorem iX6_init {l : Launch} {w : nW} : n_AllD l w 1 mX6_init (fun r => (dv_v r.1, r.2)) (aX6_init) := (n_AllD.app (iX6_init_0) (iX6_init_1))
def fX6_init_90 (x0 : Nat) (x1 : Nat) (hh : nH) : Option (Unit × nH) :=
  n_chk (Nat.beq (n_kd hh.1 x0) 6) <|
  let h1 : nH := n_upR hh x0 0 x1
  some ((), h1)
set_option maxRecDepth 200000 in
theorem bX6_init_90 {l : Launch} {w : nW} (x0 : Nat) (x1 : Nat) (hh : nH) (r : Unit × nH) (h : fX6_init_90 x0 x1 hh = some r) : n_At l w 1 mX6_init 90 [(0, .ref x0), (1, .ref x1)] [] hh (dv_v r.1, r.2) :=
  n_segd (K := []) (fin := fun r => (dv_v r.1, r.2)) 7 (iX6_init) n_ked (by rfl) h
def fX6_init (x0 : Nat) (x1 : Nat) (hh : nH) : Option (Unit × nH) :=
  n_chk (Nat.blt 0 x0 && true) <|
  n_chk (!decide ((400 : Int32) < 0) && Nat.ble ((400 : Int32).toNatClampNeg * 1) 536870912) <|
  let a1 : Nat := n_n hh.1 + 1
  let h2 : nH := n_alloc hh 13 (400 : Int32).toNatClampNeg
  n_chk (Nat.beq (n_kd h2.1 x0) 6) <|
  let h3 : nH := n_upR h2 x0 1 a1
  n_chk (!decide ((401 : Int32) < 0) && Nat.ble ((401 : Int32).toNatClampNeg * 4) 536870912) <|
  let a4 : Nat := n_n h3.1 + 1
  let h5 : nH := n_alloc h3 14 (401 : Int32).toNatClampNeg
  n_chk (Nat.beq (n_kd h5.1 x0) 6) <|
  let h6 : nH := n_upR h5 x0 2 a4
  n_chk (!decide ((401 : Int32) < 0) && Nat.ble ((401 : Int32).toNatClampNeg * 4) 536870912) <|
  let a7 : Nat := n_n h6.1 + 1
  let h8 : nH := n_alloc h6 14 (401 : Int32).toNatClampNeg
  n_chk (Nat.beq (n_kd h8.1 x0) 6) <|
  let h9 : nH := n_upR h8 x0 3 a7
  n_chk (!decide ((401 : Int32) < 0) && Nat.ble ((401 : Int32).toNatClampNeg * 4) 536870912) <|
  let a10 : Nat := n_n h9.1 + 1
  let h11 : nH := n_alloc h9 14 (401 : Int32).toNatClampNeg
  n_chk (Nat.beq (n_kd h11.1 x0) 6) <|
  let h12 : nH := n_upR h11 x0 4 a10
  n_chk (Nat.beq (n_kd h12.1 x0) 6) <|
  let h13 : nH := (h12.1, n_up h12.2 x0 5 (0 : Int32))
  n_chk (Nat.beq (n_kd h13.1 x0) 6) <|
  let h14 : nH := (h13.1, n_up h13.2 x0 6 (0 : Int32))
  let a15 : Nat := n_n h14.1 + 1
  let h16 : nH := n_alloc h14 3 7
  n_chk (Nat.blt 0 a15) <|
  (fX3_init a15 h16).bind fun p17 =>
  n_chk (Nat.beq (n_kd p17.2.1 x0) 6) <|
  let h18 : nH := n_upR p17.2 x0 7 a15
  let a19 : Nat := n_n h18.1 + 1
  let h20 : nH := n_alloc h18 7 4
  n_chk (Nat.blt 0 a19) <|
  (fX7_init a19 (16 : Int32) (4 : Int32) h20).bind fun p21 =>
  n_chk (Nat.beq (n_kd p21.2.1 x0) 6) <|
  let h22 : nH := n_upR p21.2 x0 8 a19
  n_chk (Nat.beq (n_kd h22.1 x0) 6) <|
  let h23 : nH := (h22.1, n_up h22.2 x0 9 (0 : Int32))
  n_chk (Nat.beq (n_kd h23.1 x0) 6) <|
  let h24 : nH := (h23.1, n_up h23.2 x0 10 (0 : Int32))
  n_chk (Nat.beq (n_kd h24.1 x0) 6) <|
  let h25 : nH := (h24.1, n_up h24.2 x0 11 (-1 : Int32))
  fX6_init_90 x0 x1 h25
set_option maxRecDepth 200000 in
theorem bX6_init_0 {l : Launch} {w : nW} (x0 : Nat) (x1 : Nat) (hh : nH) (r : Unit × nH) (h : fX6_init x0 x1 hh = some r) : n_At l w 1 mX6_init 0 [(0, .ref x0), (1, .ref x1)] [] hh (dv_v r.1, r.2) :=
  n_segd (K := [(90, fun lv st hh => n_lR lv 0 (fun x0 => n_lR lv 1 (fun x1 => n_pE st (fX6_init_90 x0 x1 hh))))]) (fin := fun r => (dv_v r.1, r.2)) 48 (iX6_init) (n_kcd (fun lv st hh r h => by
      obtain ⟨x0, e0, h1⟩ := n_lR_x h
      obtain ⟨x1, e1, h2⟩ := n_lR_x h1
      obtain ⟨rfl, h3⟩ := n_pE_x h2
      exact n_sub (n_qc e0 (n_qc e1 n_qe)) (bX6_init_90 x0 x1 hh r h3)) n_ked) (by rfl) h
theorem eX6_init {l : Launch} {w : nW} (z0 : Nat) (z1 : Nat) (hh : nH) (r : Unit × nH) (h : fX6_init z0 z1 hh = some r) : n_Met l w 1 mX6_init [.ref z0, .ref z1] hh (dv_v r.1, r.2) :=
  n_entry (by decide +kernel) rfl (Nat.le_of_ble_eq_true rfl) (n_sub (lv := [(0, .ref z0), (1, .ref z1)]) (n_qc rfl (n_qc rfl n_qe)) (bX6_init_0 z0 z1 hh r h))
abbrev hX6_init : nFd := fun T as hh k => n_pR as (fun z0 as => n_pR as (fun z1 as => n_pE as ((fX6_init z0 z1 hh).bind fun p => k (dv_v p.1) p.2)))
theorem csX6_init {l : Launch} {w : nW} : n_CSd l w 1 mX6_init (hX6_init) := fun T as hh k r h => by
  obtain ⟨z0, t0, rfl, h1⟩ := n_pR_x h
  obtain ⟨z1, t1, rfl, h2⟩ := n_pR_x h1
  obtain ⟨rfl, hE⟩ := n_pE_x h2
  obtain ⟨p, hp, hk⟩ := Option.bind_eq_some_iff.mp hE
  exact ⟨_, _, eX6_init z0 z1 hh p hp, hk⟩
/-! ===== SleightHouse$Thought.<init>(LSleightHouse$Told;)V ===== -/
def mX9_init : nY := (RX9, yX9_init, cX9_init, 2, none)
theorem okX9_init : n_MOK mX9_init 1 := ⟨w_535, w_149, ⟨by decide +kernel, by decide +kernel, by decide +kernel⟩, by decide⟩
abbrev aX9_init_0 : List (Nat × nD (Unit × nH)) := [(0, o_up (fun G => o_aload 0 1)), (1, o_up (fun G => o_objI 4)), (4, o_up (fun G => o_aload 0 5)), (5, o_up (fun G => o_push (.int (256 : Int32)) 8)), (8, o_newa 14 4 10), (10, o_putR 9 1 13), (13, o_up (fun G => o_aload 0 14)), (14, o_up (fun G => o_push (.int (8 : Int32)) 16)), (16, o_newa 14 4 18), (18, o_putR 9 2 21), (21, o_up (fun G => o_aload 0 22)), (22, o_up (fun G => o_aload 1 23)), (23, o_putR 9 0 26), (26, o_vretd)]
set_option maxRecDepth 200000 in
theorem iX9_init_0 {l : Launch} {w : nW} : n_AllD l w 0 mX9_init (fun r => (dv_v r.1, r.2)) (aX9_init_0) :=
  n_cd (s_up fun G => s_aload_n (pc := 0) (k := 0) (by decide +kernel)) <|
  n_cd (s_up fun G => s_objI (pc := 1) w_536 w_165 w_166 (by decide +kernel)) <|
  n_cd (s_up fun G => s_aload_n (pc := 4) (k := 0) (by decide +kernel)) <|
  n_cd (s_up fun G => s_sipush (pc := 5) (n := 256) (by decide +kernel) (by decide +kernel)) <|
  n_cd (s_newI (pc := 8) w_221 (by decide +kernel)) <|
  n_cd (s_putRF (pc := 10) (ci := 9) (k := 1) (idx := 9) nok9 (by decide) rfl rfl rfl rfl (by decide +kernel) w_538) <|
  n_cd (s_up fun G => s_aload_n (pc := 13) (k := 0) (by decide +kernel)) <|
  n_cd (s_up fun G => s_bipush (pc := 14) (n := 8) (by decide +kernel) (by decide +kernel)) <|
  n_cd (s_newI (pc := 16) w_221 (by decide +kernel)) <|
  n_cd (s_putRF (pc := 18) (ci := 9) (k := 2) (idx := 15) nok9 (by decide) rfl rfl rfl rfl (by decide +kernel) w_539) <|
  n_cd (s_up fun G => s_aload_n (pc := 21) (k := 0) (by decide +kernel)) <|
  n_cd (s_up fun G => s_aload_n (pc := 22) (k := 1) (by decide +kernel)) <|
  n_cd (s_putRF (pc := 23) (ci := 9) (k := 0) (idx := 18) nok9 (by decide) rfl rfl rfl rfl (by decide +kernel) w_537) <|
  n_cd (s_vretd (pc := 26) rfl (by decide +kernel)) <|
  n_ed
abbrev aX9_init : List (Nat × nD (Unit × nH)) := aX9_init_0
theorem iX9_init {l : Launch} {w : nW} : n_AllD l w 0 mX9_init (fun r => (dv_v r.1, r.2)) (aX9_init) := (iX9_init_0)
def fX9_init (x0 : Nat) (x1 : Nat) (hh : nH) : Option (Unit × nH) :=
  n_chk (Nat.blt 0 x0 && true) <|
  n_chk (!decide ((256 : Int32) < 0) && Nat.ble ((256 : Int32).toNatClampNeg * 4) 536870912) <|
  let a1 : Nat := n_n hh.1 + 1
  let h2 : nH := n_alloc hh 14 (256 : Int32).toNatClampNeg
  n_chk (Nat.beq (n_kd h2.1 x0) 9) <|
  let h3 : nH := n_upR h2 x0 1 a1
  n_chk (!decide ((8 : Int32) < 0) && Nat.ble ((8 : Int32).toNatClampNeg * 4) 536870912) <|
  let a4 : Nat := n_n h3.1 + 1
  let h5 : nH := n_alloc h3 14 (8 : Int32).toNatClampNeg
  n_chk (Nat.beq (n_kd h5.1 x0) 9) <|
  let h6 : nH := n_upR h5 x0 2 a4
  n_chk (Nat.beq (n_kd h6.1 x0) 9) <|
  let h7 : nH := n_upR h6 x0 0 x1
  some ((), h7)
set_option maxRecDepth 200000 in
theorem bX9_init_0 {l : Launch} {w : nW} (x0 : Nat) (x1 : Nat) (hh : nH) (r : Unit × nH) (h : fX9_init x0 x1 hh = some r) : n_At l w 0 mX9_init 0 [(0, .ref x0), (1, .ref x1)] [] hh (dv_v r.1, r.2) :=
  n_segd (K := []) (fin := fun r => (dv_v r.1, r.2)) 17 (iX9_init) n_ked (by rfl) h
theorem eX9_init {l : Launch} {w : nW} (z0 : Nat) (z1 : Nat) (hh : nH) (r : Unit × nH) (h : fX9_init z0 z1 hh = some r) : n_Met l w 0 mX9_init [.ref z0, .ref z1] hh (dv_v r.1, r.2) :=
  n_entry (by decide +kernel) rfl (Nat.le_of_ble_eq_true rfl) (n_sub (lv := [(0, .ref z0), (1, .ref z1)]) (n_qc rfl (n_qc rfl n_qe)) (bX9_init_0 z0 z1 hh r h))
abbrev hX9_init : nFd := fun T as hh k => n_pR as (fun z0 as => n_pR as (fun z1 as => n_pE as ((fX9_init z0 z1 hh).bind fun p => k (dv_v p.1) p.2)))
theorem csX9_init {l : Launch} {w : nW} : n_CSd l w 0 mX9_init (hX9_init) := fun T as hh k r h => by
  obtain ⟨z0, t0, rfl, h1⟩ := n_pR_x h
  obtain ⟨z1, t1, rfl, h2⟩ := n_pR_x h1
  obtain ⟨rfl, hE⟩ := n_pE_x h2
  obtain ⟨p, hp, hk⟩ := Option.bind_eq_some_iff.mp hE
  exact ⟨_, _, eX9_init z0 z1 hh p hp, hk⟩
/-! ===== SleightHouse$Kin.<init>()V ===== -/
def mX2_init : nY := (RX2, yX2_init, cX2_init, 1, none)
theorem okX2_init : n_MOK mX2_init 0 := ⟨w_551, w_150, ⟨by decide +kernel, by decide +kernel, by decide +kernel⟩, by decide⟩
abbrev aX2_init_0 : List (Nat × nD (Unit × nH)) := [(0, o_up (fun G => o_aload 0 1)), (1, o_up (fun G => o_objI 4)), (4, o_up (fun G => o_aload 0 5)), (5, o_up (fun G => o_push (.int (12 : Int32)) 7)), (7, o_newa 14 4 9), (9, o_putR 2 0 12), (12, o_up (fun G => o_aload 0 13)), (13, o_up (fun G => o_push (.int (12 : Int32)) 15)), (15, o_newa 14 4 17), (17, o_putR 2 1 20), (20, o_up (fun G => o_aload 0 21)), (21, o_up (fun G => o_push (.int (12 : Int32)) 23)), (23, o_newa 14 4 25), (25, o_putR 2 2 28), (28, o_up (fun G => o_aload 0 29)), (29, o_up (fun G => o_push (.int (12 : Int32)) 31)), (31, o_newa 14 4 33), (33, o_putR 2 3 36), (36, o_up (fun G => o_aload 0 37)), (37, o_up (fun G => o_push (.int (12 : Int32)) 39)), (39, o_newa 14 4 41), (41, o_putR 2 4 44), (44, o_up (fun G => o_aload 0 45)), (45, o_up (fun G => o_push (.int (0 : Int32)) 46)), (46, o_up (fun G => o_putI G 2 5 49)), (49, o_vretd)]
set_option maxRecDepth 200000 in
theorem iX2_init_0 {l : Launch} {w : nW} : n_AllD l w 0 mX2_init (fun r => (dv_v r.1, r.2)) (aX2_init_0) :=
  n_cd (s_up fun G => s_aload_n (pc := 0) (k := 0) (by decide +kernel)) <|
  n_cd (s_up fun G => s_objI (pc := 1) w_552 w_165 w_166 (by decide +kernel)) <|
  n_cd (s_up fun G => s_aload_n (pc := 4) (k := 0) (by decide +kernel)) <|
  n_cd (s_up fun G => s_bipush (pc := 5) (n := 12) (by decide +kernel) (by decide +kernel)) <|
  n_cd (s_newI (pc := 7) w_221 (by decide +kernel)) <|
  n_cd (s_putRF (pc := 9) (ci := 2) (k := 0) (idx := 9) nok2 (by decide) rfl rfl rfl rfl (by decide +kernel) w_553) <|
  n_cd (s_up fun G => s_aload_n (pc := 12) (k := 0) (by decide +kernel)) <|
  n_cd (s_up fun G => s_bipush (pc := 13) (n := 12) (by decide +kernel) (by decide +kernel)) <|
  n_cd (s_newI (pc := 15) w_221 (by decide +kernel)) <|
  n_cd (s_putRF (pc := 17) (ci := 2) (k := 1) (idx := 15) nok2 (by decide) rfl rfl rfl rfl (by decide +kernel) w_554) <|
  n_cd (s_up fun G => s_aload_n (pc := 20) (k := 0) (by decide +kernel)) <|
  n_cd (s_up fun G => s_bipush (pc := 21) (n := 12) (by decide +kernel) (by decide +kernel)) <|
  n_cd (s_newI (pc := 23) w_221 (by decide +kernel)) <|
  n_cd (s_putRF (pc := 25) (ci := 2) (k := 2) (idx := 18) nok2 (by decide) rfl rfl rfl rfl (by decide +kernel) w_555) <|
  n_cd (s_up fun G => s_aload_n (pc := 28) (k := 0) (by decide +kernel)) <|
  n_cd (s_up fun G => s_bipush (pc := 29) (n := 12) (by decide +kernel) (by decide +kernel)) <|
  n_cd (s_newI (pc := 31) w_221 (by decide +kernel)) <|
  n_cd (s_putRF (pc := 33) (ci := 2) (k := 3) (idx := 21) nok2 (by decide) rfl rfl rfl rfl (by decide +kernel) w_556) <|
  n_cd (s_up fun G => s_aload_n (pc := 36) (k := 0) (by decide +kernel)) <|
  n_cd (s_up fun G => s_bipush (pc := 37) (n := 12) (by decide +kernel) (by decide +kernel)) <|
  n_cd (s_newI (pc := 39) w_221 (by decide +kernel)) <|
  n_cd (s_putRF (pc := 41) (ci := 2) (k := 4) (idx := 24) nok2 (by decide) rfl rfl rfl rfl (by decide +kernel) w_557) <|
  n_cd (s_up fun G => s_aload_n (pc := 44) (k := 0) (by decide +kernel)) <|
  n_cd (s_up fun G => s_iconst (pc := 45) (n := 0) (by decide +kernel) (by decide +kernel)) <|
  n_cd (s_up fun G => s_putI (pc := 46) (ci := 2) (k := 5) (idx := 27) nok2 (by decide) rfl rfl (by decide +kernel) w_558) <|
  n_cd (s_vretd (pc := 49) rfl (by decide +kernel)) <|
  n_ed
abbrev aX2_init : List (Nat × nD (Unit × nH)) := aX2_init_0
theorem iX2_init {l : Launch} {w : nW} : n_AllD l w 0 mX2_init (fun r => (dv_v r.1, r.2)) (aX2_init) := (iX2_init_0)
def fX2_init (x0 : Nat) (hh : nH) : Option (Unit × nH) :=
  n_chk (Nat.blt 0 x0 && true) <|
  n_chk (!decide ((12 : Int32) < 0) && Nat.ble ((12 : Int32).toNatClampNeg * 4) 536870912) <|
  let a1 : Nat := n_n hh.1 + 1
  let h2 : nH := n_alloc hh 14 (12 : Int32).toNatClampNeg
  n_chk (Nat.beq (n_kd h2.1 x0) 2) <|
  let h3 : nH := n_upR h2 x0 0 a1
  n_chk (!decide ((12 : Int32) < 0) && Nat.ble ((12 : Int32).toNatClampNeg * 4) 536870912) <|
  let a4 : Nat := n_n h3.1 + 1
  let h5 : nH := n_alloc h3 14 (12 : Int32).toNatClampNeg
  n_chk (Nat.beq (n_kd h5.1 x0) 2) <|
  let h6 : nH := n_upR h5 x0 1 a4
  n_chk (!decide ((12 : Int32) < 0) && Nat.ble ((12 : Int32).toNatClampNeg * 4) 536870912) <|
  let a7 : Nat := n_n h6.1 + 1
  let h8 : nH := n_alloc h6 14 (12 : Int32).toNatClampNeg
  n_chk (Nat.beq (n_kd h8.1 x0) 2) <|
  let h9 : nH := n_upR h8 x0 2 a7
  n_chk (!decide ((12 : Int32) < 0) && Nat.ble ((12 : Int32).toNatClampNeg * 4) 536870912) <|
  let a10 : Nat := n_n h9.1 + 1
  let h11 : nH := n_alloc h9 14 (12 : Int32).toNatClampNeg
  n_chk (Nat.beq (n_kd h11.1 x0) 2) <|
  let h12 : nH := n_upR h11 x0 3 a10
  n_chk (!decide ((12 : Int32) < 0) && Nat.ble ((12 : Int32).toNatClampNeg * 4) 536870912) <|
  let a13 : Nat := n_n h12.1 + 1
  let h14 : nH := n_alloc h12 14 (12 : Int32).toNatClampNeg
  n_chk (Nat.beq (n_kd h14.1 x0) 2) <|
  let h15 : nH := n_upR h14 x0 4 a13
  n_chk (Nat.beq (n_kd h15.1 x0) 2) <|
  let h16 : nH := (h15.1, n_up h15.2 x0 5 (0 : Int32))
  some ((), h16)
set_option maxRecDepth 200000 in
theorem bX2_init_0 {l : Launch} {w : nW} (x0 : Nat) (hh : nH) (r : Unit × nH) (h : fX2_init x0 hh = some r) : n_At l w 0 mX2_init 0 [(0, .ref x0)] [] hh (dv_v r.1, r.2) :=
  n_segd (K := []) (fin := fun r => (dv_v r.1, r.2)) 29 (iX2_init) n_ked (by rfl) h
theorem eX2_init {l : Launch} {w : nW} (z0 : Nat) (hh : nH) (r : Unit × nH) (h : fX2_init z0 hh = some r) : n_Met l w 0 mX2_init [.ref z0] hh (dv_v r.1, r.2) :=
  n_entry (by decide +kernel) rfl (Nat.le_of_ble_eq_true rfl) (n_sub (lv := [(0, .ref z0)]) (n_qc rfl n_qe) (bX2_init_0 z0 hh r h))
abbrev hX2_init : nFd := fun T as hh k => n_pR as (fun z0 as => n_pE as ((fX2_init z0 hh).bind fun p => k (dv_v p.1) p.2))
theorem csX2_init {l : Launch} {w : nW} : n_CSd l w 0 mX2_init (hX2_init) := fun T as hh k r h => by
  obtain ⟨z0, t0, rfl, h1⟩ := n_pR_x h
  obtain ⟨rfl, hE⟩ := n_pE_x h1
  obtain ⟨p, hp, hk⟩ := Option.bind_eq_some_iff.mp hE
  exact ⟨_, _, eX2_init z0 hh p hp, hk⟩
/-! ===== SleightHouse.<init>()V ===== -/
def mX11_init : nY := (RX11, yX11_init, cX11_init, 1, none)
theorem okX11_init : n_MOK mX11_init 0 := ⟨w_163, w_137, ⟨by decide +kernel, by decide +kernel, by decide +kernel⟩, by decide⟩
abbrev aX11_init_0 (N : Nat) : List (Nat × nD (Unit × nH)) := [(0, o_up (fun G => o_aload 0 1)), (1, o_up (fun G => o_objI 4)), (4, o_up (fun G => o_aload 0 5)), (5, o_new 1 8 8), (8, o_up (fun G => o_dup 9)), (9, o_callI 0 (hX1_init N) 12), (12, o_putR 11 0 15), (15, o_up (fun G => o_aload 0 16)), (16, o_new 0 3 19), (19, o_up (fun G => o_dup 20)), (20, o_up (fun G => o_aload 0 21)), (21, o_up (fun G => o_getR G 11 0 24)), (24, o_callI 1 (hX0_init) 27), (27, o_putR 11 1 30), (30, o_up (fun G => o_aload 0 31)), (31, o_new 5 3 34), (34, o_up (fun G => o_dup 35)), (35, o_callI 0 (hX5_init N) 38), (38, o_putR 11 2 41), (41, o_up (fun G => o_aload 0 42)), (42, o_new 6 12 45), (45, o_up (fun G => o_dup 46)), (46, o_up (fun G => o_aload 0 47)), (47, o_up (fun G => o_getR G 11 0 50)), (50, o_up (fun G => o_getR G 1 0 53)), (53, o_callI 1 (hX6_init) 56), (56, o_putR 11 3 59), (59, o_up (fun G => o_aload 0 60)), (60, o_new 4 12 63), (63, o_up (fun G => o_dup 64)), (64, o_up (fun G => o_push (.int (1 : Int32)) 65)), (65, o_callI 1 (hX4_init) 68), (68, o_putR 11 4 71), (71, o_up (fun G => o_aload 0 72)), (72, o_new 9 3 75), (75, o_up (fun G => o_dup 76)), (76, o_up (fun G => o_aload 0 77)), (77, o_up (fun G => o_getR G 11 0 80)), (80, o_up (fun G => o_getR G 1 7 83)), (83, o_callI 1 (hX9_init) 86)]
set_option maxRecDepth 200000 in
theorem iX11_init_0 {l : Launch} {w : nW} (N : Nat) : n_AllD l w 3 mX11_init (fun r => (dv_v r.1, r.2)) (aX11_init_0 N) :=
  n_cd (s_up fun G => s_aload_n (pc := 0) (k := 0) (by decide +kernel)) <|
  n_cd (s_up fun G => s_objI (pc := 1) w_164 w_165 w_166 (by decide +kernel)) <|
  n_cd (s_up fun G => s_aload_n (pc := 4) (k := 0) (by decide +kernel)) <|
  n_cd (s_new (pc := 5) nok1 ndf1 w_167 w_168 w_138 (by decide +kernel)) <|
  n_cd (s_up fun G => s_dup (pc := 8) (by decide +kernel)) <|
  n_cd (s_callIN (pc := 9) (idx := 9) (host := RX11) (csX1_init N) (by decide) okX1_init rfl rfl w_170 (by decide +kernel) (by decide +kernel)) <|
  n_cd (s_putRF (pc := 12) (ci := 11) (k := 0) (idx := 10) nok11 (by decide) rfl rfl rfl rfl (by decide +kernel) w_572) <|
  n_cd (s_up fun G => s_aload_n (pc := 15) (k := 0) (by decide +kernel)) <|
  n_cd (s_new (pc := 16) nok0 ndf0 w_440 w_441 w_146 (by decide +kernel)) <|
  n_cd (s_up fun G => s_dup (pc := 19) (by decide +kernel)) <|
  n_cd (s_up fun G => s_aload_n (pc := 20) (k := 0) (by decide +kernel)) <|
  n_cd (s_up fun G => s_getR (pc := 21) (ci := 11) (k := 0) (idx := 10) nok11 (by decide) rfl (by decide +kernel) w_572) <|
  n_cd (s_callI (pc := 24) (idx := 18) (csX0_init) (by decide) okX0_init rfl rfl w_443 w_442 (by decide +kernel)) <|
  n_cd (s_putRF (pc := 27) (ci := 11) (k := 1) (idx := 21) nok11 (by decide) rfl rfl rfl rfl (by decide +kernel) w_573) <|
  n_cd (s_up fun G => s_aload_n (pc := 30) (k := 0) (by decide +kernel)) <|
  n_cd (s_new (pc := 31) nok5 ndf5 w_456 w_457 w_147 (by decide +kernel)) <|
  n_cd (s_up fun G => s_dup (pc := 34) (by decide +kernel)) <|
  n_cd (s_callI (pc := 35) (idx := 27) (csX5_init N) (by decide) okX5_init rfl rfl w_459 w_458 (by decide +kernel)) <|
  n_cd (s_putRF (pc := 38) (ci := 11) (k := 2) (idx := 28) nok11 (by decide) rfl rfl rfl rfl (by decide +kernel) w_574) <|
  n_cd (s_up fun G => s_aload_n (pc := 41) (k := 0) (by decide +kernel)) <|
  n_cd (s_new (pc := 42) nok6 ndf6 w_476 w_477 w_148 (by decide +kernel)) <|
  n_cd (s_up fun G => s_dup (pc := 45) (by decide +kernel)) <|
  n_cd (s_up fun G => s_aload_n (pc := 46) (k := 0) (by decide +kernel)) <|
  n_cd (s_up fun G => s_getR (pc := 47) (ci := 11) (k := 0) (idx := 10) nok11 (by decide) rfl (by decide +kernel) w_572) <|
  n_cd (s_up fun G => s_getR (pc := 50) (ci := 1) (k := 0) (idx := 34) nok1 (by decide) rfl (by decide +kernel) w_403) <|
  n_cd (s_callI (pc := 53) (idx := 38) (csX6_init) (by decide) okX6_init rfl rfl w_479 w_478 (by decide +kernel)) <|
  n_cd (s_putRF (pc := 56) (ci := 11) (k := 3) (idx := 41) nok11 (by decide) rfl rfl rfl rfl (by decide +kernel) w_575) <|
  n_cd (s_up fun G => s_aload_n (pc := 59) (k := 0) (by decide +kernel)) <|
  n_cd (s_new (pc := 60) nok4 ndf4 w_529 w_223 w_141 (by decide +kernel)) <|
  n_cd (s_up fun G => s_dup (pc := 63) (by decide +kernel)) <|
  n_cd (s_up fun G => s_iconst (pc := 64) (n := 1) (by decide +kernel) (by decide +kernel)) <|
  n_cd (s_callI (pc := 65) (idx := 47) (csX4_init) (by decide) okX4_init rfl rfl w_225 w_530 (by decide +kernel)) <|
  n_cd (s_putRF (pc := 68) (ci := 11) (k := 4) (idx := 50) nok11 (by decide) rfl rfl rfl rfl (by decide +kernel) w_576) <|
  n_cd (s_up fun G => s_aload_n (pc := 71) (k := 0) (by decide +kernel)) <|
  n_cd (s_new (pc := 72) nok9 ndf9 w_531 w_532 w_149 (by decide +kernel)) <|
  n_cd (s_up fun G => s_dup (pc := 75) (by decide +kernel)) <|
  n_cd (s_up fun G => s_aload_n (pc := 76) (k := 0) (by decide +kernel)) <|
  n_cd (s_up fun G => s_getR (pc := 77) (ci := 11) (k := 0) (idx := 10) nok11 (by decide) rfl (by decide +kernel) w_572) <|
  n_cd (s_up fun G => s_getR (pc := 80) (ci := 1) (k := 7) (idx := 56) nok1 (by decide) rfl (by decide +kernel) w_421) <|
  n_cd (s_callI (pc := 83) (idx := 60) (csX9_init) (by decide) okX9_init rfl rfl w_534 w_533 (by decide +kernel)) <|
  n_ed
abbrev aX11_init_1 (N : Nat) : List (Nat × nD (Unit × nH)) := [(86, o_putR 11 5 89), (89, o_up (fun G => o_aload 0 90)), (90, o_new 2 6 93), (93, o_up (fun G => o_dup 94)), (94, o_callI 0 (hX2_init) 97), (97, o_putR 11 6 100), (100, o_up (fun G => o_aload 0 101)), (101, o_up (fun G => o_push (.ref 0) 102)), (102, o_putR 11 7 105), (105, o_vretd)]
set_option maxRecDepth 200000 in
theorem iX11_init_1 {l : Launch} {w : nW} (N : Nat) : n_AllD l w 3 mX11_init (fun r => (dv_v r.1, r.2)) (aX11_init_1 N) :=
  n_cd (s_putRF (pc := 86) (ci := 11) (k := 5) (idx := 63) nok11 (by decide) rfl rfl rfl rfl (by decide +kernel) w_577) <|
  n_cd (s_up fun G => s_aload_n (pc := 89) (k := 0) (by decide +kernel)) <|
  n_cd (s_new (pc := 90) nok2 ndf2 w_547 w_548 w_150 (by decide +kernel)) <|
  n_cd (s_up fun G => s_dup (pc := 93) (by decide +kernel)) <|
  n_cd (s_callIN (pc := 94) (idx := 69) (host := RX11) (csX2_init) (by decide) okX2_init rfl rfl w_550 (by decide +kernel) (by decide +kernel)) <|
  n_cd (s_putRF (pc := 97) (ci := 11) (k := 6) (idx := 70) nok11 (by decide) rfl rfl rfl rfl (by decide +kernel) w_578) <|
  n_cd (s_up fun G => s_aload_n (pc := 100) (k := 0) (by decide +kernel)) <|
  n_cd (s_up fun G => s_null (pc := 101) (by decide +kernel)) <|
  n_cd (s_putR (pc := 102) (ci := 11) (k := 7) (idx := 74) nok11 (by decide) rfl rfl (by decide +kernel) w_579) <|
  n_cd (s_vretd (pc := 105) rfl (by decide +kernel)) <|
  n_ed
abbrev aX11_init (N : Nat) : List (Nat × nD (Unit × nH)) := aX11_init_0 N ++ (aX11_init_1 N)
theorem iX11_init {l : Launch} {w : nW} (N : Nat) : n_AllD l w 3 mX11_init (fun r => (dv_v r.1, r.2)) (aX11_init N) := (n_AllD.app (iX11_init_0 N) (iX11_init_1 N))
def fX11_init_97 (N : Nat) (x0 : Nat) (s0 : Nat) (s1 : Nat) (hh : nH) : Option (Unit × nH) :=
  n_chk (Nat.beq (n_kd hh.1 s1) 11) <|
  let h1 : nH := n_upR hh s1 6 s0
  n_chk (Nat.beq (n_kd h1.1 x0) 11) <|
  let h2 : nH := n_upR h1 x0 7 0
  some ((), h2)
set_option maxRecDepth 200000 in
theorem bX11_init_97 {l : Launch} {w : nW} (N : Nat) (x0 : Nat) (s0 : Nat) (s1 : Nat) (hh : nH) (r : Unit × nH) (h : fX11_init_97 N x0 s0 s1 hh = some r) : n_At l w 3 mX11_init 97 [(0, .ref x0)] [.ref s0, .ref s1] hh (dv_v r.1, r.2) :=
  n_segd (K := []) (fin := fun r => (dv_v r.1, r.2)) 8 (iX11_init N) n_ked (by rfl) h
def fX11_init (N : Nat) (x0 : Nat) (hh : nH) : Option (Unit × nH) :=
  n_chk (Nat.blt 0 x0 && true) <|
  let a1 : Nat := n_n hh.1 + 1
  let h2 : nH := n_alloc hh 1 8
  n_chk (Nat.blt 0 a1) <|
  (fX1_init N a1 h2).bind fun p3 =>
  n_chk (Nat.beq (n_kd p3.2.1 x0) 11) <|
  let h4 : nH := n_upR p3.2 x0 0 a1
  let a5 : Nat := n_n h4.1 + 1
  let h6 : nH := n_alloc h4 0 3
  n_chk (Nat.beq (n_kd h6.1 x0) 11) <|
  let a7 : Nat := n_mr h6.1 x0 0
  n_chk (Nat.blt 0 a5) <|
  (fX0_init a5 a7 h6).bind fun p8 =>
  n_chk (Nat.beq (n_kd p8.2.1 x0) 11) <|
  let h9 : nH := n_upR p8.2 x0 1 a5
  let a10 : Nat := n_n h9.1 + 1
  let h11 : nH := n_alloc h9 5 3
  n_chk (Nat.blt 0 a10) <|
  (fX5_init N a10 h11).bind fun p12 =>
  n_chk (Nat.beq (n_kd p12.2.1 x0) 11) <|
  let h13 : nH := n_upR p12.2 x0 2 a10
  let a14 : Nat := n_n h13.1 + 1
  let h15 : nH := n_alloc h13 6 12
  n_chk (Nat.beq (n_kd h15.1 x0) 11) <|
  let a16 : Nat := n_mr h15.1 x0 0
  n_chk (Nat.beq (n_kd h15.1 a16) 1) <|
  let a17 : Nat := n_mr h15.1 a16 0
  n_chk (Nat.blt 0 a14) <|
  (fX6_init a14 a17 h15).bind fun p18 =>
  n_chk (Nat.beq (n_kd p18.2.1 x0) 11) <|
  let h19 : nH := n_upR p18.2 x0 3 a14
  let a20 : Nat := n_n h19.1 + 1
  let h21 : nH := n_alloc h19 4 12
  n_chk (Nat.blt 0 a20) <|
  (fX4_init a20 (1 : Int32) h21).bind fun p22 =>
  n_chk (Nat.beq (n_kd p22.2.1 x0) 11) <|
  let h23 : nH := n_upR p22.2 x0 4 a20
  let a24 : Nat := n_n h23.1 + 1
  let h25 : nH := n_alloc h23 9 3
  n_chk (Nat.beq (n_kd h25.1 x0) 11) <|
  let a26 : Nat := n_mr h25.1 x0 0
  n_chk (Nat.beq (n_kd h25.1 a26) 1) <|
  let a27 : Nat := n_mr h25.1 a26 7
  n_chk (Nat.blt 0 a24) <|
  (fX9_init a24 a27 h25).bind fun p28 =>
  n_chk (Nat.beq (n_kd p28.2.1 x0) 11) <|
  let h29 : nH := n_upR p28.2 x0 5 a24
  let a30 : Nat := n_n h29.1 + 1
  let h31 : nH := n_alloc h29 2 6
  n_chk (Nat.blt 0 a30) <|
  (fX2_init a30 h31).bind fun p32 =>
  fX11_init_97 N x0 a30 x0 p32.2
set_option maxRecDepth 200000 in
theorem bX11_init_0 {l : Launch} {w : nW} (N : Nat) (x0 : Nat) (hh : nH) (r : Unit × nH) (h : fX11_init N x0 hh = some r) : n_At l w 3 mX11_init 0 [(0, .ref x0)] [] hh (dv_v r.1, r.2) :=
  n_segd (K := [(97, fun lv st hh => n_lR lv 0 (fun x0 => n_pR st (fun s0 st => n_pR st (fun s1 st => n_pE st (fX11_init_97 N x0 s0 s1 hh)))))]) (fin := fun r => (dv_v r.1, r.2)) 48 (iX11_init N) (n_kcd (fun lv st hh r h => by
      obtain ⟨x0, e0, h1⟩ := n_lR_x h
      obtain ⟨s0, t0, rfl, h2⟩ := n_pR_x h1
      obtain ⟨s1, t1, rfl, h3⟩ := n_pR_x h2
      obtain ⟨rfl, h4⟩ := n_pE_x h3
      exact n_sub (n_qc e0 n_qe) (bX11_init_97 N x0 s0 s1 hh r h4)) n_ked) (by rfl) h
theorem eX11_init {l : Launch} {w : nW} (N : Nat) (z0 : Nat) (hh : nH) (r : Unit × nH) (h : fX11_init N z0 hh = some r) : n_Met l w 3 mX11_init [.ref z0] hh (dv_v r.1, r.2) :=
  n_entry (by decide +kernel) rfl (Nat.le_of_ble_eq_true rfl) (n_sub (lv := [(0, .ref z0)]) (n_qc rfl n_qe) (bX11_init_0 N z0 hh r h))
abbrev hX11_init (N : Nat) : nFd := fun T as hh k => n_pR as (fun z0 as => n_pE as ((fX11_init N z0 hh).bind fun p => k (dv_v p.1) p.2))
theorem csX11_init {l : Launch} {w : nW} (N : Nat) : n_CSd l w 3 mX11_init (hX11_init N) := fun T as hh k r h => by
  obtain ⟨z0, t0, rfl, h1⟩ := n_pR_x h
  obtain ⟨rfl, hE⟩ := n_pE_x h1
  obtain ⟨p, hp, hk⟩ := Option.bind_eq_some_iff.mp hE
  exact ⟨_, _, eX11_init N z0 hh p hp, hk⟩
