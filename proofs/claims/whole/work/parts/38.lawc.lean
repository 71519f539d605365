/-! ===== the law's cases ===== -/
noncomputable abbrev al_state (N : Nat) (G : nG) (L : Nat) (xs : Nat → Int32) : List (Nat × nO nR) := [(228, o_aload 1 229), (229, o_aloadS 0 230), (230, o_iload 3 231), (231, o_push (.int (1 : Int32)) 232), (232, o_iadd 233), (233, o_sald L xs 234), (234, o_callVc 1 1 (hX11_state) 237), (237, o_aload 2 238), (238, o_aloadS 0 239), (239, o_iload 3 240), (240, o_push (.int (1 : Int32)) 241), (241, o_iadd 242), (242, o_sald L xs 243), (243, o_callVc 107 1 (hX12_state) 246), (246, oc_eq 1675 249), (249, o_push (.int (0 : Int32)) 250), (250, o_no)]
set_option maxRecDepth 200000 in
theorem ia_state {l : Launch} {w : nW} {nm : String} {G : nG} {L : Nat} {xs : Nat → Int32} (N : Nat) (hG : n_GOK G) (hX : n_PX w L xs) (hT : n_PS w) : n_AllS l w 530 (n_mlaw nm) G (fun r => r) (al_state N G L xs) :=
  n_c (s_aload_n (μ := n_mlaw nm) (pc := 228) (k := 1) dl_228) <|
  n_c (s_aloadS (μ := n_mlaw nm) (pc := 229) (k := 0) dl_229) <|
  n_c (s_iload_n (μ := n_mlaw nm) (pc := 230) (k := 3) dl_230) <|
  n_c (s_iconst (μ := n_mlaw nm) (pc := 231) (n := 1) dl_231 (by decide +kernel)) <|
  n_c (s_iadd (μ := n_mlaw nm) (pc := 232) dl_232) <|
  n_c (s_sald (μ := n_mlaw nm) (pc := 233) hX dl_233) <|
  n_c (s_callVc (s_callV (μ := n_mlaw nm) (pc := 234) (csX11_state hG) (by decide) okX11_state nok11 w_598 w_599 w_597 dl_234) (gk1 hG)) <|
  n_c (s_aload_n (μ := n_mlaw nm) (pc := 237) (k := 2) dl_237) <|
  n_c (s_aloadS (μ := n_mlaw nm) (pc := 238) (k := 0) dl_238) <|
  n_c (s_iload_n (μ := n_mlaw nm) (pc := 239) (k := 3) dl_239) <|
  n_c (s_iconst (μ := n_mlaw nm) (pc := 240) (n := 1) dl_240 (by decide +kernel)) <|
  n_c (s_iadd (μ := n_mlaw nm) (pc := 241) dl_241) <|
  n_c (s_sald (μ := n_mlaw nm) (pc := 242) hX dl_242) <|
  n_c (s_callVc (s_callV (μ := n_mlaw nm) (pc := 243) (csX12_state hG) (by decide) okX12_state nok12 w_1650 w_1651 w_1649 dl_243) (gk107 hG)) <|
  n_c (s_icmp_eq (μ := n_mlaw nm) (pc := 246) (off := 1429) dl_246 (by decide +kernel)) <|
  n_c (s_iconst (μ := n_mlaw nm) (pc := 249) (n := 0) dl_249 (by decide +kernel)) <|
  n_c (s_no) <|
  n_e
noncomputable def fl_state (N : Nat) (G : nG) (L : Nat) (xs : Nat → Int32) (kk : Int32 → nM → Option nR) (x3 : Int32) (M : nM) : Option nR :=
  n_chk (n_ib L (x3 + (1 : Int32))) <|
  (fX11_state (xs (x3 + (1 : Int32)).toNatClampNeg) M).bind fun p =>
  n_chk (n_ib L (x3 + (1 : Int32))) <|
  (fX12_state (xs (x3 + (1 : Int32)).toNatClampNeg) p.2).bind fun q =>
  if p.1 = q.1 then kk x3 q.2 else none
set_option maxRecDepth 200000 in
theorem lc_state {l : Launch} {w : nW} {nm : String} {G : nG} {L : Nat} {xs : Nat → Int32} (N : Nat) (hG : n_GOK G) (hX : n_PX w L xs) (hT : n_PS w) (i : Int32) (M M1 M2 : nM) (v : Int32) (r : nR) (hb1 : n_ib L (i + (1 : Int32)) = true) (h1 : fX11_state (xs (i + (1 : Int32)).toNatClampNeg) M = some (v, M1)) (h2 : fX12_state (xs (i + (1 : Int32)).toNatClampNeg) M1 = some (v, M2)) (h3 : n_Lw l w nm 1675 i (G, M2) r) : n_Lw l w nm 228 i (G, M) r :=
  n_seg (fin := fun r => r) (K := [(1675, fun lv st M => n_lS 0 lv 0 (n_lC 1 lv 1 (n_lC 107 lv 2 (n_lI lv 3 (fun x3 => n_pE st (n_one i M2 r x3 M))))))]) 21 (ia_state N hG hX hT) (n_kc (fun lv st M' r' k => by
    obtain ⟨e0, k0⟩ := n_lS_x k
    obtain ⟨e1, k1⟩ := n_lC_x k0
    obtain ⟨e2, k2⟩ := n_lC_x k1
    obtain ⟨x3, e3, k3⟩ := n_lI_x k2
    obtain ⟨rfl, k4⟩ := n_pE_x k3
    exact n_sub (n_qc e0 (n_qc e1 (n_qc e2 (n_qc e3 n_qe)))) (by obtain ⟨rfl, rfl, rfl⟩ := n_one_x k4; exact h3)) n_ke) (F := fl_state N G L xs (n_one i M2 r) i M) (by rfl) (by
    unfold fl_state
    simp only [hb1, n_chk, h1, h2, Option.bind_some, ↓reduceIte, n_one_at])
noncomputable abbrev al_thing (N : Nat) (G : nG) (L : Nat) (xs : Nat → Int32) : List (Nat × nO nR) := [(251, o_aload 1 252), (252, o_aloadS 0 253), (253, o_iload 3 254), (254, o_push (.int (1 : Int32)) 255), (255, o_iadd 256), (256, o_sald L xs 257), (257, o_aloadS 0 258), (258, o_iload 3 259), (259, o_push (.int (2 : Int32)) 260), (260, o_iadd 261), (261, o_sald L xs 262), (262, o_aloadS 0 263), (263, o_iload 3 264), (264, o_push (.int (3 : Int32)) 265), (265, o_iadd 266), (266, o_sald L xs 267), (267, o_callVc 1 3 (hX11_thing) 270), (270, o_aload 2 271), (271, o_aloadS 0 272), (272, o_iload 3 273), (273, o_push (.int (1 : Int32)) 274), (274, o_iadd 275), (275, o_sald L xs 276), (276, o_aloadS 0 277), (277, o_iload 3 278), (278, o_push (.int (2 : Int32)) 279), (279, o_iadd 280), (280, o_sald L xs 281), (281, o_aloadS 0 282), (282, o_iload 3 283), (283, o_push (.int (3 : Int32)) 284), (284, o_iadd 285), (285, o_sald L xs 286), (286, o_callVc 107 3 (hX12_thing) 289), (289, oc_eq 1675 292), (292, o_push (.int (0 : Int32)) 293), (293, o_no)]
set_option maxRecDepth 200000 in
theorem ia_thing {l : Launch} {w : nW} {nm : String} {G : nG} {L : Nat} {xs : Nat → Int32} (N : Nat) (hG : n_GOK G) (hX : n_PX w L xs) (hT : n_PS w) : n_AllS l w 530 (n_mlaw nm) G (fun r => r) (al_thing N G L xs) :=
  n_c (s_aload_n (μ := n_mlaw nm) (pc := 251) (k := 1) dl_251) <|
  n_c (s_aloadS (μ := n_mlaw nm) (pc := 252) (k := 0) dl_252) <|
  n_c (s_iload_n (μ := n_mlaw nm) (pc := 253) (k := 3) dl_253) <|
  n_c (s_iconst (μ := n_mlaw nm) (pc := 254) (n := 1) dl_254 (by decide +kernel)) <|
  n_c (s_iadd (μ := n_mlaw nm) (pc := 255) dl_255) <|
  n_c (s_sald (μ := n_mlaw nm) (pc := 256) hX dl_256) <|
  n_c (s_aloadS (μ := n_mlaw nm) (pc := 257) (k := 0) dl_257) <|
  n_c (s_iload_n (μ := n_mlaw nm) (pc := 258) (k := 3) dl_258) <|
  n_c (s_iconst (μ := n_mlaw nm) (pc := 259) (n := 2) dl_259 (by decide +kernel)) <|
  n_c (s_iadd (μ := n_mlaw nm) (pc := 260) dl_260) <|
  n_c (s_sald (μ := n_mlaw nm) (pc := 261) hX dl_261) <|
  n_c (s_aloadS (μ := n_mlaw nm) (pc := 262) (k := 0) dl_262) <|
  n_c (s_iload_n (μ := n_mlaw nm) (pc := 263) (k := 3) dl_263) <|
  n_c (s_iconst (μ := n_mlaw nm) (pc := 264) (n := 3) dl_264 (by decide +kernel)) <|
  n_c (s_iadd (μ := n_mlaw nm) (pc := 265) dl_265) <|
  n_c (s_sald (μ := n_mlaw nm) (pc := 266) hX dl_266) <|
  n_c (s_callVc (s_callV (μ := n_mlaw nm) (pc := 267) (csX11_thing hG) (by decide) okX11_thing nok11 w_606 w_607 w_605 dl_267) (gk1 hG)) <|
  n_c (s_aload_n (μ := n_mlaw nm) (pc := 270) (k := 2) dl_270) <|
  n_c (s_aloadS (μ := n_mlaw nm) (pc := 271) (k := 0) dl_271) <|
  n_c (s_iload_n (μ := n_mlaw nm) (pc := 272) (k := 3) dl_272) <|
  n_c (s_iconst (μ := n_mlaw nm) (pc := 273) (n := 1) dl_273 (by decide +kernel)) <|
  n_c (s_iadd (μ := n_mlaw nm) (pc := 274) dl_274) <|
  n_c (s_sald (μ := n_mlaw nm) (pc := 275) hX dl_275) <|
  n_c (s_aloadS (μ := n_mlaw nm) (pc := 276) (k := 0) dl_276) <|
  n_c (s_iload_n (μ := n_mlaw nm) (pc := 277) (k := 3) dl_277) <|
  n_c (s_iconst (μ := n_mlaw nm) (pc := 278) (n := 2) dl_278 (by decide +kernel)) <|
  n_c (s_iadd (μ := n_mlaw nm) (pc := 279) dl_279) <|
  n_c (s_sald (μ := n_mlaw nm) (pc := 280) hX dl_280) <|
  n_c (s_aloadS (μ := n_mlaw nm) (pc := 281) (k := 0) dl_281) <|
  n_c (s_iload_n (μ := n_mlaw nm) (pc := 282) (k := 3) dl_282) <|
  n_c (s_iconst (μ := n_mlaw nm) (pc := 283) (n := 3) dl_283 (by decide +kernel)) <|
  n_c (s_iadd (μ := n_mlaw nm) (pc := 284) dl_284) <|
  n_c (s_sald (μ := n_mlaw nm) (pc := 285) hX dl_285) <|
  n_c (s_callVc (s_callV (μ := n_mlaw nm) (pc := 286) (csX12_thing hG) (by decide) okX12_thing nok12 w_1654 w_1655 w_1653 dl_286) (gk107 hG)) <|
  n_c (s_icmp_eq (μ := n_mlaw nm) (pc := 289) (off := 1386) dl_289 (by decide +kernel)) <|
  n_c (s_iconst (μ := n_mlaw nm) (pc := 292) (n := 0) dl_292 (by decide +kernel)) <|
  n_c (s_no) <|
  n_e
noncomputable def fl_thing (N : Nat) (G : nG) (L : Nat) (xs : Nat → Int32) (kk : Int32 → nM → Option nR) (x3 : Int32) (M : nM) : Option nR :=
  n_chk (n_ib L (x3 + (1 : Int32))) <|
  n_chk (n_ib L (x3 + (2 : Int32))) <|
  n_chk (n_ib L (x3 + (3 : Int32))) <|
  (fX11_thing (xs (x3 + (1 : Int32)).toNatClampNeg) (xs (x3 + (2 : Int32)).toNatClampNeg) (xs (x3 + (3 : Int32)).toNatClampNeg) M).bind fun p =>
  n_chk (n_ib L (x3 + (1 : Int32))) <|
  n_chk (n_ib L (x3 + (2 : Int32))) <|
  n_chk (n_ib L (x3 + (3 : Int32))) <|
  (fX12_thing (xs (x3 + (1 : Int32)).toNatClampNeg) (xs (x3 + (2 : Int32)).toNatClampNeg) (xs (x3 + (3 : Int32)).toNatClampNeg) p.2).bind fun q =>
  if p.1 = q.1 then kk x3 q.2 else none
set_option maxRecDepth 200000 in
theorem lc_thing {l : Launch} {w : nW} {nm : String} {G : nG} {L : Nat} {xs : Nat → Int32} (N : Nat) (hG : n_GOK G) (hX : n_PX w L xs) (hT : n_PS w) (i : Int32) (M M1 M2 : nM) (v : Int32) (r : nR) (hb1 : n_ib L (i + (1 : Int32)) = true) (hb2 : n_ib L (i + (2 : Int32)) = true) (hb3 : n_ib L (i + (3 : Int32)) = true) (h1 : fX11_thing (xs (i + (1 : Int32)).toNatClampNeg) (xs (i + (2 : Int32)).toNatClampNeg) (xs (i + (3 : Int32)).toNatClampNeg) M = some (v, M1)) (h2 : fX12_thing (xs (i + (1 : Int32)).toNatClampNeg) (xs (i + (2 : Int32)).toNatClampNeg) (xs (i + (3 : Int32)).toNatClampNeg) M1 = some (v, M2)) (h3 : n_Lw l w nm 1675 i (G, M2) r) : n_Lw l w nm 251 i (G, M) r :=
  n_seg (fin := fun r => r) (K := [(1675, fun lv st M => n_lS 0 lv 0 (n_lC 1 lv 1 (n_lC 107 lv 2 (n_lI lv 3 (fun x3 => n_pE st (n_one i M2 r x3 M))))))]) 41 (ia_thing N hG hX hT) (n_kc (fun lv st M' r' k => by
    obtain ⟨e0, k0⟩ := n_lS_x k
    obtain ⟨e1, k1⟩ := n_lC_x k0
    obtain ⟨e2, k2⟩ := n_lC_x k1
    obtain ⟨x3, e3, k3⟩ := n_lI_x k2
    obtain ⟨rfl, k4⟩ := n_pE_x k3
    exact n_sub (n_qc e0 (n_qc e1 (n_qc e2 (n_qc e3 n_qe)))) (by obtain ⟨rfl, rfl, rfl⟩ := n_one_x k4; exact h3)) n_ke) (F := fl_thing N G L xs (n_one i M2 r) i M) (by rfl) (by
    unfold fl_thing
    simp only [hb1, hb2, hb3, n_chk, h1, h2, Option.bind_some, ↓reduceIte, n_one_at])
noncomputable abbrev al_person (N : Nat) (G : nG) (L : Nat) (xs : Nat → Int32) : List (Nat × nO nR) := [(294, o_aload 1 295), (295, o_aloadS 0 296), (296, o_iload 3 297), (297, o_push (.int (1 : Int32)) 298), (298, o_iadd 299), (299, o_sald L xs 300), (300, o_aloadS 0 301), (301, o_iload 3 302), (302, o_push (.int (2 : Int32)) 303), (303, o_iadd 304), (304, o_sald L xs 305), (305, o_callVc 1 2 (hX11_person) 308), (308, o_aload 2 309), (309, o_aloadS 0 310), (310, o_iload 3 311), (311, o_push (.int (1 : Int32)) 312), (312, o_iadd 313), (313, o_sald L xs 314), (314, o_aloadS 0 315), (315, o_iload 3 316), (316, o_push (.int (2 : Int32)) 317), (317, o_iadd 318), (318, o_sald L xs 319), (319, o_callVc 107 2 (hX12_person) 322), (322, oc_eq 1675 325), (325, o_push (.int (0 : Int32)) 326), (326, o_no)]
set_option maxRecDepth 200000 in
theorem ia_person {l : Launch} {w : nW} {nm : String} {G : nG} {L : Nat} {xs : Nat → Int32} (N : Nat) (hG : n_GOK G) (hX : n_PX w L xs) (hT : n_PS w) : n_AllS l w 530 (n_mlaw nm) G (fun r => r) (al_person N G L xs) :=
  n_c (s_aload_n (μ := n_mlaw nm) (pc := 294) (k := 1) dl_294) <|
  n_c (s_aloadS (μ := n_mlaw nm) (pc := 295) (k := 0) dl_295) <|
  n_c (s_iload_n (μ := n_mlaw nm) (pc := 296) (k := 3) dl_296) <|
  n_c (s_iconst (μ := n_mlaw nm) (pc := 297) (n := 1) dl_297 (by decide +kernel)) <|
  n_c (s_iadd (μ := n_mlaw nm) (pc := 298) dl_298) <|
  n_c (s_sald (μ := n_mlaw nm) (pc := 299) hX dl_299) <|
  n_c (s_aloadS (μ := n_mlaw nm) (pc := 300) (k := 0) dl_300) <|
  n_c (s_iload_n (μ := n_mlaw nm) (pc := 301) (k := 3) dl_301) <|
  n_c (s_iconst (μ := n_mlaw nm) (pc := 302) (n := 2) dl_302 (by decide +kernel)) <|
  n_c (s_iadd (μ := n_mlaw nm) (pc := 303) dl_303) <|
  n_c (s_sald (μ := n_mlaw nm) (pc := 304) hX dl_304) <|
  n_c (s_callVc (s_callV (μ := n_mlaw nm) (pc := 305) (csX11_person hG) (by decide) okX11_person nok11 w_628 w_629 w_627 dl_305) (gk1 hG)) <|
  n_c (s_aload_n (μ := n_mlaw nm) (pc := 308) (k := 2) dl_308) <|
  n_c (s_aloadS (μ := n_mlaw nm) (pc := 309) (k := 0) dl_309) <|
  n_c (s_iload_n (μ := n_mlaw nm) (pc := 310) (k := 3) dl_310) <|
  n_c (s_iconst (μ := n_mlaw nm) (pc := 311) (n := 1) dl_311 (by decide +kernel)) <|
  n_c (s_iadd (μ := n_mlaw nm) (pc := 312) dl_312) <|
  n_c (s_sald (μ := n_mlaw nm) (pc := 313) hX dl_313) <|
  n_c (s_aloadS (μ := n_mlaw nm) (pc := 314) (k := 0) dl_314) <|
  n_c (s_iload_n (μ := n_mlaw nm) (pc := 315) (k := 3) dl_315) <|
  n_c (s_iconst (μ := n_mlaw nm) (pc := 316) (n := 2) dl_316 (by decide +kernel)) <|
  n_c (s_iadd (μ := n_mlaw nm) (pc := 317) dl_317) <|
  n_c (s_sald (μ := n_mlaw nm) (pc := 318) hX dl_318) <|
  n_c (s_callVc (s_callV (μ := n_mlaw nm) (pc := 319) (csX12_person hG) (by decide) okX12_person nok12 w_1666 w_1667 w_1665 dl_319) (gk107 hG)) <|
  n_c (s_icmp_eq (μ := n_mlaw nm) (pc := 322) (off := 1353) dl_322 (by decide +kernel)) <|
  n_c (s_iconst (μ := n_mlaw nm) (pc := 325) (n := 0) dl_325 (by decide +kernel)) <|
  n_c (s_no) <|
  n_e
noncomputable def fl_person (N : Nat) (G : nG) (L : Nat) (xs : Nat → Int32) (kk : Int32 → nM → Option nR) (x3 : Int32) (M : nM) : Option nR :=
  n_chk (n_ib L (x3 + (1 : Int32))) <|
  n_chk (n_ib L (x3 + (2 : Int32))) <|
  (fX11_person (xs (x3 + (1 : Int32)).toNatClampNeg) (xs (x3 + (2 : Int32)).toNatClampNeg) M).bind fun p =>
  n_chk (n_ib L (x3 + (1 : Int32))) <|
  n_chk (n_ib L (x3 + (2 : Int32))) <|
  (fX12_person (xs (x3 + (1 : Int32)).toNatClampNeg) (xs (x3 + (2 : Int32)).toNatClampNeg) p.2).bind fun q =>
  if p.1 = q.1 then kk x3 q.2 else none
set_option maxRecDepth 200000 in
theorem lc_person {l : Launch} {w : nW} {nm : String} {G : nG} {L : Nat} {xs : Nat → Int32} (N : Nat) (hG : n_GOK G) (hX : n_PX w L xs) (hT : n_PS w) (i : Int32) (M M1 M2 : nM) (v : Int32) (r : nR) (hb1 : n_ib L (i + (1 : Int32)) = true) (hb2 : n_ib L (i + (2 : Int32)) = true) (h1 : fX11_person (xs (i + (1 : Int32)).toNatClampNeg) (xs (i + (2 : Int32)).toNatClampNeg) M = some (v, M1)) (h2 : fX12_person (xs (i + (1 : Int32)).toNatClampNeg) (xs (i + (2 : Int32)).toNatClampNeg) M1 = some (v, M2)) (h3 : n_Lw l w nm 1675 i (G, M2) r) : n_Lw l w nm 294 i (G, M) r :=
  n_seg (fin := fun r => r) (K := [(1675, fun lv st M => n_lS 0 lv 0 (n_lC 1 lv 1 (n_lC 107 lv 2 (n_lI lv 3 (fun x3 => n_pE st (n_one i M2 r x3 M))))))]) 31 (ia_person N hG hX hT) (n_kc (fun lv st M' r' k => by
    obtain ⟨e0, k0⟩ := n_lS_x k
    obtain ⟨e1, k1⟩ := n_lC_x k0
    obtain ⟨e2, k2⟩ := n_lC_x k1
    obtain ⟨x3, e3, k3⟩ := n_lI_x k2
    obtain ⟨rfl, k4⟩ := n_pE_x k3
    exact n_sub (n_qc e0 (n_qc e1 (n_qc e2 (n_qc e3 n_qe)))) (by obtain ⟨rfl, rfl, rfl⟩ := n_one_x k4; exact h3)) n_ke) (F := fl_person N G L xs (n_one i M2 r) i M) (by rfl) (by
    unfold fl_person
    simp only [hb1, hb2, n_chk, h1, h2, Option.bind_some, ↓reduceIte, n_one_at])
noncomputable abbrev al_set (N : Nat) (G : nG) (L : Nat) (xs : Nat → Int32) : List (Nat × nO nR) := [(327, o_aload 1 328), (328, o_aloadS 0 329), (329, o_iload 3 330), (330, o_push (.int (1 : Int32)) 331), (331, o_iadd 332), (332, o_sald L xs 333), (333, o_aloadS 0 334), (334, o_iload 3 335), (335, o_push (.int (2 : Int32)) 336), (336, o_iadd 337), (337, o_sald L xs 338), (338, o_aloadS 0 339), (339, o_iload 3 340), (340, o_push (.int (3 : Int32)) 341), (341, o_iadd 342), (342, o_sald L xs 343), (343, o_callVc 1 3 (hX11_set G) 346), (346, o_aload 2 347), (347, o_aloadS 0 348), (348, o_iload 3 349), (349, o_push (.int (1 : Int32)) 350), (350, o_iadd 351), (351, o_sald L xs 352), (352, o_aloadS 0 353), (353, o_iload 3 354), (354, o_push (.int (2 : Int32)) 355), (355, o_iadd 356), (356, o_sald L xs 357), (357, o_aloadS 0 358), (358, o_iload 3 359), (359, o_push (.int (3 : Int32)) 360), (360, o_iadd 361), (361, o_sald L xs 362), (362, o_callVc 107 3 (hX12_set) 365), (365, oc_eq 1675 368), (368, o_push (.int (0 : Int32)) 369), (369, o_no)]
set_option maxRecDepth 200000 in
theorem ia_set {l : Launch} {w : nW} {nm : String} {G : nG} {L : Nat} {xs : Nat → Int32} (N : Nat) (hG : n_GOK G) (hX : n_PX w L xs) (hT : n_PS w) : n_AllS l w 530 (n_mlaw nm) G (fun r => r) (al_set N G L xs) :=
  n_c (s_aload_n (μ := n_mlaw nm) (pc := 327) (k := 1) dl_327) <|
  n_c (s_aloadS (μ := n_mlaw nm) (pc := 328) (k := 0) dl_328) <|
  n_c (s_iload_n (μ := n_mlaw nm) (pc := 329) (k := 3) dl_329) <|
  n_c (s_iconst (μ := n_mlaw nm) (pc := 330) (n := 1) dl_330 (by decide +kernel)) <|
  n_c (s_iadd (μ := n_mlaw nm) (pc := 331) dl_331) <|
  n_c (s_sald (μ := n_mlaw nm) (pc := 332) hX dl_332) <|
  n_c (s_aloadS (μ := n_mlaw nm) (pc := 333) (k := 0) dl_333) <|
  n_c (s_iload_n (μ := n_mlaw nm) (pc := 334) (k := 3) dl_334) <|
  n_c (s_iconst (μ := n_mlaw nm) (pc := 335) (n := 2) dl_335 (by decide +kernel)) <|
  n_c (s_iadd (μ := n_mlaw nm) (pc := 336) dl_336) <|
  n_c (s_sald (μ := n_mlaw nm) (pc := 337) hX dl_337) <|
  n_c (s_aloadS (μ := n_mlaw nm) (pc := 338) (k := 0) dl_338) <|
  n_c (s_iload_n (μ := n_mlaw nm) (pc := 339) (k := 3) dl_339) <|
  n_c (s_iconst (μ := n_mlaw nm) (pc := 340) (n := 3) dl_340 (by decide +kernel)) <|
  n_c (s_iadd (μ := n_mlaw nm) (pc := 341) dl_341) <|
  n_c (s_sald (μ := n_mlaw nm) (pc := 342) hX dl_342) <|
  n_c (s_callVc (s_callV (μ := n_mlaw nm) (pc := 343) (csX11_set hG) (by decide) okX11_set nok11 w_640 w_641 w_639 dl_343) (gk1 hG)) <|
  n_c (s_aload_n (μ := n_mlaw nm) (pc := 346) (k := 2) dl_346) <|
  n_c (s_aloadS (μ := n_mlaw nm) (pc := 347) (k := 0) dl_347) <|
  n_c (s_iload_n (μ := n_mlaw nm) (pc := 348) (k := 3) dl_348) <|
  n_c (s_iconst (μ := n_mlaw nm) (pc := 349) (n := 1) dl_349 (by decide +kernel)) <|
  n_c (s_iadd (μ := n_mlaw nm) (pc := 350) dl_350) <|
  n_c (s_sald (μ := n_mlaw nm) (pc := 351) hX dl_351) <|
  n_c (s_aloadS (μ := n_mlaw nm) (pc := 352) (k := 0) dl_352) <|
  n_c (s_iload_n (μ := n_mlaw nm) (pc := 353) (k := 3) dl_353) <|
  n_c (s_iconst (μ := n_mlaw nm) (pc := 354) (n := 2) dl_354 (by decide +kernel)) <|
  n_c (s_iadd (μ := n_mlaw nm) (pc := 355) dl_355) <|
  n_c (s_sald (μ := n_mlaw nm) (pc := 356) hX dl_356) <|
  n_c (s_aloadS (μ := n_mlaw nm) (pc := 357) (k := 0) dl_357) <|
  n_c (s_iload_n (μ := n_mlaw nm) (pc := 358) (k := 3) dl_358) <|
  n_c (s_iconst (μ := n_mlaw nm) (pc := 359) (n := 3) dl_359 (by decide +kernel)) <|
  n_c (s_iadd (μ := n_mlaw nm) (pc := 360) dl_360) <|
  n_c (s_sald (μ := n_mlaw nm) (pc := 361) hX dl_361) <|
  n_c (s_callVc (s_callV (μ := n_mlaw nm) (pc := 362) (csX12_set hG) (by decide) okX12_set nok12 w_1670 w_1671 w_1669 dl_362) (gk107 hG)) <|
  n_c (s_icmp_eq (μ := n_mlaw nm) (pc := 365) (off := 1310) dl_365 (by decide +kernel)) <|
  n_c (s_iconst (μ := n_mlaw nm) (pc := 368) (n := 0) dl_368 (by decide +kernel)) <|
  n_c (s_no) <|
  n_e
noncomputable def fl_set (N : Nat) (G : nG) (L : Nat) (xs : Nat → Int32) (kk : Int32 → nM → Option nR) (x3 : Int32) (M : nM) : Option nR :=
  n_chk (n_ib L (x3 + (1 : Int32))) <|
  n_chk (n_ib L (x3 + (2 : Int32))) <|
  n_chk (n_ib L (x3 + (3 : Int32))) <|
  (fX11_set G (xs (x3 + (1 : Int32)).toNatClampNeg) (xs (x3 + (2 : Int32)).toNatClampNeg) (xs (x3 + (3 : Int32)).toNatClampNeg) M).bind fun p =>
  n_chk (n_ib L (x3 + (1 : Int32))) <|
  n_chk (n_ib L (x3 + (2 : Int32))) <|
  n_chk (n_ib L (x3 + (3 : Int32))) <|
  (fX12_set (xs (x3 + (1 : Int32)).toNatClampNeg) (xs (x3 + (2 : Int32)).toNatClampNeg) (xs (x3 + (3 : Int32)).toNatClampNeg) p.2).bind fun q =>
  if p.1 = q.1 then kk x3 q.2 else none
set_option maxRecDepth 200000 in
theorem lc_set {l : Launch} {w : nW} {nm : String} {G : nG} {L : Nat} {xs : Nat → Int32} (N : Nat) (hG : n_GOK G) (hX : n_PX w L xs) (hT : n_PS w) (i : Int32) (M M1 M2 : nM) (v : Int32) (r : nR) (hb1 : n_ib L (i + (1 : Int32)) = true) (hb2 : n_ib L (i + (2 : Int32)) = true) (hb3 : n_ib L (i + (3 : Int32)) = true) (h1 : fX11_set G (xs (i + (1 : Int32)).toNatClampNeg) (xs (i + (2 : Int32)).toNatClampNeg) (xs (i + (3 : Int32)).toNatClampNeg) M = some (v, M1)) (h2 : fX12_set (xs (i + (1 : Int32)).toNatClampNeg) (xs (i + (2 : Int32)).toNatClampNeg) (xs (i + (3 : Int32)).toNatClampNeg) M1 = some (v, M2)) (h3 : n_Lw l w nm 1675 i (G, M2) r) : n_Lw l w nm 327 i (G, M) r :=
  n_seg (fin := fun r => r) (K := [(1675, fun lv st M => n_lS 0 lv 0 (n_lC 1 lv 1 (n_lC 107 lv 2 (n_lI lv 3 (fun x3 => n_pE st (n_one i M2 r x3 M))))))]) 41 (ia_set N hG hX hT) (n_kc (fun lv st M' r' k => by
    obtain ⟨e0, k0⟩ := n_lS_x k
    obtain ⟨e1, k1⟩ := n_lC_x k0
    obtain ⟨e2, k2⟩ := n_lC_x k1
    obtain ⟨x3, e3, k3⟩ := n_lI_x k2
    obtain ⟨rfl, k4⟩ := n_pE_x k3
    exact n_sub (n_qc e0 (n_qc e1 (n_qc e2 (n_qc e3 n_qe)))) (by obtain ⟨rfl, rfl, rfl⟩ := n_one_x k4; exact h3)) n_ke) (F := fl_set N G L xs (n_one i M2 r) i M) (by rfl) (by
    unfold fl_set
    simp only [hb1, hb2, hb3, n_chk, h1, h2, Option.bind_some, ↓reduceIte, n_one_at])
noncomputable abbrev al_puts (N : Nat) (G : nG) (L : Nat) (xs : Nat → Int32) : List (Nat × nO nR) := [(370, o_aload 1 371), (371, o_aloadS 0 372), (372, o_iload 3 373), (373, o_push (.int (1 : Int32)) 374), (374, o_iadd 375), (375, o_sald L xs 376), (376, o_aloadS 0 377), (377, o_iload 3 378), (378, o_push (.int (2 : Int32)) 379), (379, o_iadd 380), (380, o_sald L xs 381), (381, o_aloadS 0 382), (382, o_iload 3 383), (383, o_push (.int (3 : Int32)) 384), (384, o_iadd 385), (385, o_sald L xs 386), (386, o_callVc 1 3 (hX11_puts N G) 389), (389, o_aload 2 390), (390, o_aloadS 0 391), (391, o_iload 3 392), (392, o_push (.int (1 : Int32)) 393), (393, o_iadd 394), (394, o_sald L xs 395), (395, o_aloadS 0 396), (396, o_iload 3 397), (397, o_push (.int (2 : Int32)) 398), (398, o_iadd 399), (399, o_sald L xs 400), (400, o_aloadS 0 401), (401, o_iload 3 402), (402, o_push (.int (3 : Int32)) 403), (403, o_iadd 404), (404, o_sald L xs 405), (405, o_callVc 107 3 (hX12_puts N) 408), (408, oc_eq 1675 411), (411, o_push (.int (0 : Int32)) 412), (412, o_no)]
set_option maxRecDepth 200000 in
theorem ia_puts {l : Launch} {w : nW} {nm : String} {G : nG} {L : Nat} {xs : Nat → Int32} (N : Nat) (hG : n_GOK G) (hX : n_PX w L xs) (hT : n_PS w) : n_AllS l w 530 (n_mlaw nm) G (fun r => r) (al_puts N G L xs) :=
  n_c (s_aload_n (μ := n_mlaw nm) (pc := 370) (k := 1) dl_370) <|
  n_c (s_aloadS (μ := n_mlaw nm) (pc := 371) (k := 0) dl_371) <|
  n_c (s_iload_n (μ := n_mlaw nm) (pc := 372) (k := 3) dl_372) <|
  n_c (s_iconst (μ := n_mlaw nm) (pc := 373) (n := 1) dl_373 (by decide +kernel)) <|
  n_c (s_iadd (μ := n_mlaw nm) (pc := 374) dl_374) <|
  n_c (s_sald (μ := n_mlaw nm) (pc := 375) hX dl_375) <|
  n_c (s_aloadS (μ := n_mlaw nm) (pc := 376) (k := 0) dl_376) <|
  n_c (s_iload_n (μ := n_mlaw nm) (pc := 377) (k := 3) dl_377) <|
  n_c (s_iconst (μ := n_mlaw nm) (pc := 378) (n := 2) dl_378 (by decide +kernel)) <|
  n_c (s_iadd (μ := n_mlaw nm) (pc := 379) dl_379) <|
  n_c (s_sald (μ := n_mlaw nm) (pc := 380) hX dl_380) <|
  n_c (s_aloadS (μ := n_mlaw nm) (pc := 381) (k := 0) dl_381) <|
  n_c (s_iload_n (μ := n_mlaw nm) (pc := 382) (k := 3) dl_382) <|
  n_c (s_iconst (μ := n_mlaw nm) (pc := 383) (n := 3) dl_383 (by decide +kernel)) <|
  n_c (s_iadd (μ := n_mlaw nm) (pc := 384) dl_384) <|
  n_c (s_sald (μ := n_mlaw nm) (pc := 385) hX dl_385) <|
  n_c (s_callVc (s_callV (μ := n_mlaw nm) (pc := 386) (csX11_puts N hG) (by decide) okX11_puts nok11 w_664 w_665 w_663 dl_386) (gk1 hG)) <|
  n_c (s_aload_n (μ := n_mlaw nm) (pc := 389) (k := 2) dl_389) <|
  n_c (s_aloadS (μ := n_mlaw nm) (pc := 390) (k := 0) dl_390) <|
  n_c (s_iload_n (μ := n_mlaw nm) (pc := 391) (k := 3) dl_391) <|
  n_c (s_iconst (μ := n_mlaw nm) (pc := 392) (n := 1) dl_392 (by decide +kernel)) <|
  n_c (s_iadd (μ := n_mlaw nm) (pc := 393) dl_393) <|
  n_c (s_sald (μ := n_mlaw nm) (pc := 394) hX dl_394) <|
  n_c (s_aloadS (μ := n_mlaw nm) (pc := 395) (k := 0) dl_395) <|
  n_c (s_iload_n (μ := n_mlaw nm) (pc := 396) (k := 3) dl_396) <|
  n_c (s_iconst (μ := n_mlaw nm) (pc := 397) (n := 2) dl_397 (by decide +kernel)) <|
  n_c (s_iadd (μ := n_mlaw nm) (pc := 398) dl_398) <|
  n_c (s_sald (μ := n_mlaw nm) (pc := 399) hX dl_399) <|
  n_c (s_aloadS (μ := n_mlaw nm) (pc := 400) (k := 0) dl_400) <|
  n_c (s_iload_n (μ := n_mlaw nm) (pc := 401) (k := 3) dl_401) <|
  n_c (s_iconst (μ := n_mlaw nm) (pc := 402) (n := 3) dl_402 (by decide +kernel)) <|
  n_c (s_iadd (μ := n_mlaw nm) (pc := 403) dl_403) <|
  n_c (s_sald (μ := n_mlaw nm) (pc := 404) hX dl_404) <|
  n_c (s_callVc (s_callV (μ := n_mlaw nm) (pc := 405) (csX12_puts N hG) (by decide) okX12_puts nok12 w_1838 w_1839 w_1837 dl_405) (gk107 hG)) <|
  n_c (s_icmp_eq (μ := n_mlaw nm) (pc := 408) (off := 1267) dl_408 (by decide +kernel)) <|
  n_c (s_iconst (μ := n_mlaw nm) (pc := 411) (n := 0) dl_411 (by decide +kernel)) <|
  n_c (s_no) <|
  n_e
noncomputable def fl_puts (N : Nat) (G : nG) (L : Nat) (xs : Nat → Int32) (kk : Int32 → nM → Option nR) (x3 : Int32) (M : nM) : Option nR :=
  n_chk (n_ib L (x3 + (1 : Int32))) <|
  n_chk (n_ib L (x3 + (2 : Int32))) <|
  n_chk (n_ib L (x3 + (3 : Int32))) <|
  (fX11_puts N G (xs (x3 + (1 : Int32)).toNatClampNeg) (xs (x3 + (2 : Int32)).toNatClampNeg) (xs (x3 + (3 : Int32)).toNatClampNeg) M).bind fun p =>
  n_chk (n_ib L (x3 + (1 : Int32))) <|
  n_chk (n_ib L (x3 + (2 : Int32))) <|
  n_chk (n_ib L (x3 + (3 : Int32))) <|
  (fX12_puts N (xs (x3 + (1 : Int32)).toNatClampNeg) (xs (x3 + (2 : Int32)).toNatClampNeg) (xs (x3 + (3 : Int32)).toNatClampNeg) p.2).bind fun q =>
  if p.1 = q.1 then kk x3 q.2 else none
set_option maxRecDepth 200000 in
theorem lc_puts {l : Launch} {w : nW} {nm : String} {G : nG} {L : Nat} {xs : Nat → Int32} (N : Nat) (hG : n_GOK G) (hX : n_PX w L xs) (hT : n_PS w) (i : Int32) (M M1 M2 : nM) (v : Int32) (r : nR) (hb1 : n_ib L (i + (1 : Int32)) = true) (hb2 : n_ib L (i + (2 : Int32)) = true) (hb3 : n_ib L (i + (3 : Int32)) = true) (h1 : fX11_puts N G (xs (i + (1 : Int32)).toNatClampNeg) (xs (i + (2 : Int32)).toNatClampNeg) (xs (i + (3 : Int32)).toNatClampNeg) M = some (v, M1)) (h2 : fX12_puts N (xs (i + (1 : Int32)).toNatClampNeg) (xs (i + (2 : Int32)).toNatClampNeg) (xs (i + (3 : Int32)).toNatClampNeg) M1 = some (v, M2)) (h3 : n_Lw l w nm 1675 i (G, M2) r) : n_Lw l w nm 370 i (G, M) r :=
  n_seg (fin := fun r => r) (K := [(1675, fun lv st M => n_lS 0 lv 0 (n_lC 1 lv 1 (n_lC 107 lv 2 (n_lI lv 3 (fun x3 => n_pE st (n_one i M2 r x3 M))))))]) 41 (ia_puts N hG hX hT) (n_kc (fun lv st M' r' k => by
    obtain ⟨e0, k0⟩ := n_lS_x k
    obtain ⟨e1, k1⟩ := n_lC_x k0
    obtain ⟨e2, k2⟩ := n_lC_x k1
    obtain ⟨x3, e3, k3⟩ := n_lI_x k2
    obtain ⟨rfl, k4⟩ := n_pE_x k3
    exact n_sub (n_qc e0 (n_qc e1 (n_qc e2 (n_qc e3 n_qe)))) (by obtain ⟨rfl, rfl, rfl⟩ := n_one_x k4; exact h3)) n_ke) (F := fl_puts N G L xs (n_one i M2 r) i M) (by rfl) (by
    unfold fl_puts
    simp only [hb1, hb2, hb3, n_chk, h1, h2, Option.bind_some, ↓reduceIte, n_one_at])
noncomputable abbrev al_search (N : Nat) (G : nG) (L : Nat) (xs : Nat → Int32) : List (Nat × nO nR) := [(413, o_aload 1 414), (414, o_aloadS 0 415), (415, o_iload 3 416), (416, o_push (.int (1 : Int32)) 417), (417, o_iadd 418), (418, o_sald L xs 419), (419, o_aloadS 0 420), (420, o_iload 3 421), (421, o_push (.int (2 : Int32)) 422), (422, o_iadd 423), (423, o_sald L xs 424), (424, o_callVc 1 2 (hX11_search N G) 427), (427, o_aload 2 428), (428, o_aloadS 0 429), (429, o_iload 3 430), (430, o_push (.int (1 : Int32)) 431), (431, o_iadd 432), (432, o_sald L xs 433), (433, o_aloadS 0 434), (434, o_iload 3 435), (435, o_push (.int (2 : Int32)) 436), (436, o_iadd 437), (437, o_sald L xs 438), (438, o_callVc 107 2 (hX12_search N) 441), (441, oc_eq 1675 444), (444, o_push (.int (0 : Int32)) 445), (445, o_no)]
set_option maxRecDepth 200000 in
theorem ia_search {l : Launch} {w : nW} {nm : String} {G : nG} {L : Nat} {xs : Nat → Int32} (N : Nat) (hG : n_GOK G) (hX : n_PX w L xs) (hT : n_PS w) : n_AllS l w 530 (n_mlaw nm) G (fun r => r) (al_search N G L xs) :=
  n_c (s_aload_n (μ := n_mlaw nm) (pc := 413) (k := 1) dl_413) <|
  n_c (s_aloadS (μ := n_mlaw nm) (pc := 414) (k := 0) dl_414) <|
  n_c (s_iload_n (μ := n_mlaw nm) (pc := 415) (k := 3) dl_415) <|
  n_c (s_iconst (μ := n_mlaw nm) (pc := 416) (n := 1) dl_416 (by decide +kernel)) <|
  n_c (s_iadd (μ := n_mlaw nm) (pc := 417) dl_417) <|
  n_c (s_sald (μ := n_mlaw nm) (pc := 418) hX dl_418) <|
  n_c (s_aloadS (μ := n_mlaw nm) (pc := 419) (k := 0) dl_419) <|
  n_c (s_iload_n (μ := n_mlaw nm) (pc := 420) (k := 3) dl_420) <|
  n_c (s_iconst (μ := n_mlaw nm) (pc := 421) (n := 2) dl_421 (by decide +kernel)) <|
  n_c (s_iadd (μ := n_mlaw nm) (pc := 422) dl_422) <|
  n_c (s_sald (μ := n_mlaw nm) (pc := 423) hX dl_423) <|
  n_c (s_callVc (s_callV (μ := n_mlaw nm) (pc := 424) (csX11_search N hG) (by decide) okX11_search nok11 w_761 w_762 w_760 dl_424) (gk1 hG)) <|
  n_c (s_aload_n (μ := n_mlaw nm) (pc := 427) (k := 2) dl_427) <|
  n_c (s_aloadS (μ := n_mlaw nm) (pc := 428) (k := 0) dl_428) <|
  n_c (s_iload_n (μ := n_mlaw nm) (pc := 429) (k := 3) dl_429) <|
  n_c (s_iconst (μ := n_mlaw nm) (pc := 430) (n := 1) dl_430 (by decide +kernel)) <|
  n_c (s_iadd (μ := n_mlaw nm) (pc := 431) dl_431) <|
  n_c (s_sald (μ := n_mlaw nm) (pc := 432) hX dl_432) <|
  n_c (s_aloadS (μ := n_mlaw nm) (pc := 433) (k := 0) dl_433) <|
  n_c (s_iload_n (μ := n_mlaw nm) (pc := 434) (k := 3) dl_434) <|
  n_c (s_iconst (μ := n_mlaw nm) (pc := 435) (n := 2) dl_435 (by decide +kernel)) <|
  n_c (s_iadd (μ := n_mlaw nm) (pc := 436) dl_436) <|
  n_c (s_sald (μ := n_mlaw nm) (pc := 437) hX dl_437) <|
  n_c (s_callVc (s_callV (μ := n_mlaw nm) (pc := 438) (csX12_search N hG) (by decide) okX12_search nok12 w_1912 w_1913 w_1911 dl_438) (gk107 hG)) <|
  n_c (s_icmp_eq (μ := n_mlaw nm) (pc := 441) (off := 1234) dl_441 (by decide +kernel)) <|
  n_c (s_iconst (μ := n_mlaw nm) (pc := 444) (n := 0) dl_444 (by decide +kernel)) <|
  n_c (s_no) <|
  n_e
noncomputable def fl_search (N : Nat) (G : nG) (L : Nat) (xs : Nat → Int32) (kk : Int32 → nM → Option nR) (x3 : Int32) (M : nM) : Option nR :=
  n_chk (n_ib L (x3 + (1 : Int32))) <|
  n_chk (n_ib L (x3 + (2 : Int32))) <|
  (fX11_search N G (xs (x3 + (1 : Int32)).toNatClampNeg) (xs (x3 + (2 : Int32)).toNatClampNeg) M).bind fun p =>
  n_chk (n_ib L (x3 + (1 : Int32))) <|
  n_chk (n_ib L (x3 + (2 : Int32))) <|
  (fX12_search N (xs (x3 + (1 : Int32)).toNatClampNeg) (xs (x3 + (2 : Int32)).toNatClampNeg) p.2).bind fun q =>
  if p.1 = q.1 then kk x3 q.2 else none
set_option maxRecDepth 200000 in
theorem lc_search {l : Launch} {w : nW} {nm : String} {G : nG} {L : Nat} {xs : Nat → Int32} (N : Nat) (hG : n_GOK G) (hX : n_PX w L xs) (hT : n_PS w) (i : Int32) (M M1 M2 : nM) (v : Int32) (r : nR) (hb1 : n_ib L (i + (1 : Int32)) = true) (hb2 : n_ib L (i + (2 : Int32)) = true) (h1 : fX11_search N G (xs (i + (1 : Int32)).toNatClampNeg) (xs (i + (2 : Int32)).toNatClampNeg) M = some (v, M1)) (h2 : fX12_search N (xs (i + (1 : Int32)).toNatClampNeg) (xs (i + (2 : Int32)).toNatClampNeg) M1 = some (v, M2)) (h3 : n_Lw l w nm 1675 i (G, M2) r) : n_Lw l w nm 413 i (G, M) r :=
  n_seg (fin := fun r => r) (K := [(1675, fun lv st M => n_lS 0 lv 0 (n_lC 1 lv 1 (n_lC 107 lv 2 (n_lI lv 3 (fun x3 => n_pE st (n_one i M2 r x3 M))))))]) 31 (ia_search N hG hX hT) (n_kc (fun lv st M' r' k => by
    obtain ⟨e0, k0⟩ := n_lS_x k
    obtain ⟨e1, k1⟩ := n_lC_x k0
    obtain ⟨e2, k2⟩ := n_lC_x k1
    obtain ⟨x3, e3, k3⟩ := n_lI_x k2
    obtain ⟨rfl, k4⟩ := n_pE_x k3
    exact n_sub (n_qc e0 (n_qc e1 (n_qc e2 (n_qc e3 n_qe)))) (by obtain ⟨rfl, rfl, rfl⟩ := n_one_x k4; exact h3)) n_ke) (F := fl_search N G L xs (n_one i M2 r) i M) (by rfl) (by
    unfold fl_search
    simp only [hb1, hb2, n_chk, h1, h2, Option.bind_some, ↓reduceIte, n_one_at])
noncomputable abbrev al_act (N : Nat) (G : nG) (L : Nat) (xs : Nat → Int32) : List (Nat × nO nR) := [(446, o_aload 1 447), (447, o_aloadS 0 448), (448, o_iload 3 449), (449, o_push (.int (1 : Int32)) 450), (450, o_iadd 451), (451, o_sald L xs 452), (452, o_aloadS 0 453), (453, o_iload 3 454), (454, o_push (.int (2 : Int32)) 455), (455, o_iadd 456), (456, o_sald L xs 457), (457, o_callVc 1 2 (hX11_act G) 460), (460, o_aload 2 461), (461, o_aloadS 0 462), (462, o_iload 3 463), (463, o_push (.int (1 : Int32)) 464), (464, o_iadd 465), (465, o_sald L xs 466), (466, o_aloadS 0 467), (467, o_iload 3 468), (468, o_push (.int (2 : Int32)) 469), (469, o_iadd 470), (470, o_sald L xs 471), (471, o_callVc 107 2 (hX12_act N) 474), (474, oc_eq 1675 477), (477, o_push (.int (0 : Int32)) 478), (478, o_no)]
set_option maxRecDepth 200000 in
theorem ia_act {l : Launch} {w : nW} {nm : String} {G : nG} {L : Nat} {xs : Nat → Int32} (N : Nat) (hG : n_GOK G) (hX : n_PX w L xs) (hT : n_PS w) : n_AllS l w 530 (n_mlaw nm) G (fun r => r) (al_act N G L xs) :=
  n_c (s_aload_n (μ := n_mlaw nm) (pc := 446) (k := 1) dl_446) <|
  n_c (s_aloadS (μ := n_mlaw nm) (pc := 447) (k := 0) dl_447) <|
  n_c (s_iload_n (μ := n_mlaw nm) (pc := 448) (k := 3) dl_448) <|
  n_c (s_iconst (μ := n_mlaw nm) (pc := 449) (n := 1) dl_449 (by decide +kernel)) <|
  n_c (s_iadd (μ := n_mlaw nm) (pc := 450) dl_450) <|
  n_c (s_sald (μ := n_mlaw nm) (pc := 451) hX dl_451) <|
  n_c (s_aloadS (μ := n_mlaw nm) (pc := 452) (k := 0) dl_452) <|
  n_c (s_iload_n (μ := n_mlaw nm) (pc := 453) (k := 3) dl_453) <|
  n_c (s_iconst (μ := n_mlaw nm) (pc := 454) (n := 2) dl_454 (by decide +kernel)) <|
  n_c (s_iadd (μ := n_mlaw nm) (pc := 455) dl_455) <|
  n_c (s_sald (μ := n_mlaw nm) (pc := 456) hX dl_456) <|
  n_c (s_callVc (s_callV (μ := n_mlaw nm) (pc := 457) (csX11_act hG) (by decide) okX11_act nok11 w_773 w_774 w_772 dl_457) (gk1 hG)) <|
  n_c (s_aload_n (μ := n_mlaw nm) (pc := 460) (k := 2) dl_460) <|
  n_c (s_aloadS (μ := n_mlaw nm) (pc := 461) (k := 0) dl_461) <|
  n_c (s_iload_n (μ := n_mlaw nm) (pc := 462) (k := 3) dl_462) <|
  n_c (s_iconst (μ := n_mlaw nm) (pc := 463) (n := 1) dl_463 (by decide +kernel)) <|
  n_c (s_iadd (μ := n_mlaw nm) (pc := 464) dl_464) <|
  n_c (s_sald (μ := n_mlaw nm) (pc := 465) hX dl_465) <|
  n_c (s_aloadS (μ := n_mlaw nm) (pc := 466) (k := 0) dl_466) <|
  n_c (s_iload_n (μ := n_mlaw nm) (pc := 467) (k := 3) dl_467) <|
  n_c (s_iconst (μ := n_mlaw nm) (pc := 468) (n := 2) dl_468 (by decide +kernel)) <|
  n_c (s_iadd (μ := n_mlaw nm) (pc := 469) dl_469) <|
  n_c (s_sald (μ := n_mlaw nm) (pc := 470) hX dl_470) <|
  n_c (s_callVc (s_callV (μ := n_mlaw nm) (pc := 471) (csX12_act N hG) (by decide) okX12_act nok12 w_1928 w_1929 w_1927 dl_471) (gk107 hG)) <|
  n_c (s_icmp_eq (μ := n_mlaw nm) (pc := 474) (off := 1201) dl_474 (by decide +kernel)) <|
  n_c (s_iconst (μ := n_mlaw nm) (pc := 477) (n := 0) dl_477 (by decide +kernel)) <|
  n_c (s_no) <|
  n_e
noncomputable def fl_act (N : Nat) (G : nG) (L : Nat) (xs : Nat → Int32) (kk : Int32 → nM → Option nR) (x3 : Int32) (M : nM) : Option nR :=
  n_chk (n_ib L (x3 + (1 : Int32))) <|
  n_chk (n_ib L (x3 + (2 : Int32))) <|
  (fX11_act G (xs (x3 + (1 : Int32)).toNatClampNeg) (xs (x3 + (2 : Int32)).toNatClampNeg) M).bind fun p =>
  n_chk (n_ib L (x3 + (1 : Int32))) <|
  n_chk (n_ib L (x3 + (2 : Int32))) <|
  (fX12_act N (xs (x3 + (1 : Int32)).toNatClampNeg) (xs (x3 + (2 : Int32)).toNatClampNeg) p.2).bind fun q =>
  if p.1 = q.1 then kk x3 q.2 else none
set_option maxRecDepth 200000 in
theorem lc_act {l : Launch} {w : nW} {nm : String} {G : nG} {L : Nat} {xs : Nat → Int32} (N : Nat) (hG : n_GOK G) (hX : n_PX w L xs) (hT : n_PS w) (i : Int32) (M M1 M2 : nM) (v : Int32) (r : nR) (hb1 : n_ib L (i + (1 : Int32)) = true) (hb2 : n_ib L (i + (2 : Int32)) = true) (h1 : fX11_act G (xs (i + (1 : Int32)).toNatClampNeg) (xs (i + (2 : Int32)).toNatClampNeg) M = some (v, M1)) (h2 : fX12_act N (xs (i + (1 : Int32)).toNatClampNeg) (xs (i + (2 : Int32)).toNatClampNeg) M1 = some (v, M2)) (h3 : n_Lw l w nm 1675 i (G, M2) r) : n_Lw l w nm 446 i (G, M) r :=
  n_seg (fin := fun r => r) (K := [(1675, fun lv st M => n_lS 0 lv 0 (n_lC 1 lv 1 (n_lC 107 lv 2 (n_lI lv 3 (fun x3 => n_pE st (n_one i M2 r x3 M))))))]) 31 (ia_act N hG hX hT) (n_kc (fun lv st M' r' k => by
    obtain ⟨e0, k0⟩ := n_lS_x k
    obtain ⟨e1, k1⟩ := n_lC_x k0
    obtain ⟨e2, k2⟩ := n_lC_x k1
    obtain ⟨x3, e3, k3⟩ := n_lI_x k2
    obtain ⟨rfl, k4⟩ := n_pE_x k3
    exact n_sub (n_qc e0 (n_qc e1 (n_qc e2 (n_qc e3 n_qe)))) (by obtain ⟨rfl, rfl, rfl⟩ := n_one_x k4; exact h3)) n_ke) (F := fl_act N G L xs (n_one i M2 r) i M) (by rfl) (by
    unfold fl_act
    simp only [hb1, hb2, n_chk, h1, h2, Option.bind_some, ↓reduceIte, n_one_at])
noncomputable abbrev al_hours (N : Nat) (G : nG) (L : Nat) (xs : Nat → Int32) : List (Nat × nO nR) := [(479, o_aload 1 480), (480, o_aloadS 0 481), (481, o_iload 3 482), (482, o_push (.int (1 : Int32)) 483), (483, o_iadd 484), (484, o_sald L xs 485), (485, o_callVc 1 1 (hX11_hours N G) 488), (488, o_aload 2 489), (489, o_aloadS 0 490), (490, o_iload 3 491), (491, o_push (.int (1 : Int32)) 492), (492, o_iadd 493), (493, o_sald L xs 494), (494, o_callVc 107 1 (hX12_hours N) 497), (497, oc_eq 1675 500), (500, o_push (.int (0 : Int32)) 501), (501, o_no)]
set_option maxRecDepth 200000 in
theorem ia_hours {l : Launch} {w : nW} {nm : String} {G : nG} {L : Nat} {xs : Nat → Int32} (N : Nat) (hG : n_GOK G) (hX : n_PX w L xs) (hT : n_PS w) : n_AllS l w 530 (n_mlaw nm) G (fun r => r) (al_hours N G L xs) :=
  n_c (s_aload_n (μ := n_mlaw nm) (pc := 479) (k := 1) dl_479) <|
  n_c (s_aloadS (μ := n_mlaw nm) (pc := 480) (k := 0) dl_480) <|
  n_c (s_iload_n (μ := n_mlaw nm) (pc := 481) (k := 3) dl_481) <|
  n_c (s_iconst (μ := n_mlaw nm) (pc := 482) (n := 1) dl_482 (by decide +kernel)) <|
  n_c (s_iadd (μ := n_mlaw nm) (pc := 483) dl_483) <|
  n_c (s_sald (μ := n_mlaw nm) (pc := 484) hX dl_484) <|
  n_c (s_callVc (s_callV (μ := n_mlaw nm) (pc := 485) (csX11_hours N hG) (by decide) okX11_hours nok11 w_778 w_779 w_777 dl_485) (gk1 hG)) <|
  n_c (s_aload_n (μ := n_mlaw nm) (pc := 488) (k := 2) dl_488) <|
  n_c (s_aloadS (μ := n_mlaw nm) (pc := 489) (k := 0) dl_489) <|
  n_c (s_iload_n (μ := n_mlaw nm) (pc := 490) (k := 3) dl_490) <|
  n_c (s_iconst (μ := n_mlaw nm) (pc := 491) (n := 1) dl_491 (by decide +kernel)) <|
  n_c (s_iadd (μ := n_mlaw nm) (pc := 492) dl_492) <|
  n_c (s_sald (μ := n_mlaw nm) (pc := 493) hX dl_493) <|
  n_c (s_callVc (s_callV (μ := n_mlaw nm) (pc := 494) (csX12_hours N hG) (by decide) okX12_hours nok12 w_1932 w_1933 w_1931 dl_494) (gk107 hG)) <|
  n_c (s_icmp_eq (μ := n_mlaw nm) (pc := 497) (off := 1178) dl_497 (by decide +kernel)) <|
  n_c (s_iconst (μ := n_mlaw nm) (pc := 500) (n := 0) dl_500 (by decide +kernel)) <|
  n_c (s_no) <|
  n_e
noncomputable def fl_hours (N : Nat) (G : nG) (L : Nat) (xs : Nat → Int32) (kk : Int32 → nM → Option nR) (x3 : Int32) (M : nM) : Option nR :=
  n_chk (n_ib L (x3 + (1 : Int32))) <|
  (fX11_hours N G (xs (x3 + (1 : Int32)).toNatClampNeg) M).bind fun p =>
  n_chk (n_ib L (x3 + (1 : Int32))) <|
  (fX12_hours N (xs (x3 + (1 : Int32)).toNatClampNeg) p.2).bind fun q =>
  if p.1 = q.1 then kk x3 q.2 else none
set_option maxRecDepth 200000 in
theorem lc_hours {l : Launch} {w : nW} {nm : String} {G : nG} {L : Nat} {xs : Nat → Int32} (N : Nat) (hG : n_GOK G) (hX : n_PX w L xs) (hT : n_PS w) (i : Int32) (M M1 M2 : nM) (v : Int32) (r : nR) (hb1 : n_ib L (i + (1 : Int32)) = true) (h1 : fX11_hours N G (xs (i + (1 : Int32)).toNatClampNeg) M = some (v, M1)) (h2 : fX12_hours N (xs (i + (1 : Int32)).toNatClampNeg) M1 = some (v, M2)) (h3 : n_Lw l w nm 1675 i (G, M2) r) : n_Lw l w nm 479 i (G, M) r :=
  n_seg (fin := fun r => r) (K := [(1675, fun lv st M => n_lS 0 lv 0 (n_lC 1 lv 1 (n_lC 107 lv 2 (n_lI lv 3 (fun x3 => n_pE st (n_one i M2 r x3 M))))))]) 21 (ia_hours N hG hX hT) (n_kc (fun lv st M' r' k => by
    obtain ⟨e0, k0⟩ := n_lS_x k
    obtain ⟨e1, k1⟩ := n_lC_x k0
    obtain ⟨e2, k2⟩ := n_lC_x k1
    obtain ⟨x3, e3, k3⟩ := n_lI_x k2
    obtain ⟨rfl, k4⟩ := n_pE_x k3
    exact n_sub (n_qc e0 (n_qc e1 (n_qc e2 (n_qc e3 n_qe)))) (by obtain ⟨rfl, rfl, rfl⟩ := n_one_x k4; exact h3)) n_ke) (F := fl_hours N G L xs (n_one i M2 r) i M) (by rfl) (by
    unfold fl_hours
    simp only [hb1, n_chk, h1, h2, Option.bind_some, ↓reduceIte, n_one_at])
noncomputable abbrev al_feed (N : Nat) (G : nG) (L : Nat) (xs : Nat → Int32) : List (Nat × nO nR) := [(502, o_aload 1 503), (503, o_aloadS 0 504), (504, o_iload 3 505), (505, o_push (.int (1 : Int32)) 506), (506, o_iadd 507), (507, o_sald L xs 508), (508, o_aloadS 0 509), (509, o_iload 3 510), (510, o_push (.int (2 : Int32)) 511), (511, o_iadd 512), (512, o_sald L xs 513), (513, o_aloadS 0 514), (514, o_iload 3 515), (515, o_push (.int (3 : Int32)) 516), (516, o_iadd 517), (517, o_sald L xs 518), (518, o_aloadS 0 519), (519, o_iload 3 520), (520, o_push (.int (4 : Int32)) 521), (521, o_iadd 522), (522, o_sald L xs 523), (523, o_aloadS 0 524), (524, o_iload 3 525), (525, o_push (.int (5 : Int32)) 526), (526, o_iadd 527), (527, o_sald L xs 528), (528, o_callVc 1 5 (hX11_feed N) 531), (531, o_aload 2 532), (532, o_aloadS 0 533), (533, o_iload 3 534), (534, o_push (.int (1 : Int32)) 535), (535, o_iadd 536), (536, o_sald L xs 537), (537, o_aloadS 0 538), (538, o_iload 3 539), (539, o_push (.int (2 : Int32)) 540), (540, o_iadd 541), (541, o_sald L xs 542), (542, o_aloadS 0 543), (543, o_iload 3 544), (544, o_push (.int (3 : Int32)) 545), (545, o_iadd 546), (546, o_sald L xs 547), (547, o_aloadS 0 548), (548, o_iload 3 549), (549, o_push (.int (4 : Int32)) 550), (550, o_iadd 551), (551, o_sald L xs 552), (552, o_aloadS 0 553), (553, o_iload 3 554), (554, o_push (.int (5 : Int32)) 555), (555, o_iadd 556), (556, o_sald L xs 557), (557, o_callVc 107 5 (hX12_feed N) 560), (560, oc_eq 1675 563), (563, o_push (.int (0 : Int32)) 564), (564, o_no)]
set_option maxRecDepth 200000 in
theorem ia_feed {l : Launch} {w : nW} {nm : String} {G : nG} {L : Nat} {xs : Nat → Int32} (N : Nat) (hG : n_GOK G) (hX : n_PX w L xs) (hT : n_PS w) : n_AllS l w 530 (n_mlaw nm) G (fun r => r) (al_feed N G L xs) :=
  n_c (s_aload_n (μ := n_mlaw nm) (pc := 502) (k := 1) dl_502) <|
  n_c (s_aloadS (μ := n_mlaw nm) (pc := 503) (k := 0) dl_503) <|
  n_c (s_iload_n (μ := n_mlaw nm) (pc := 504) (k := 3) dl_504) <|
  n_c (s_iconst (μ := n_mlaw nm) (pc := 505) (n := 1) dl_505 (by decide +kernel)) <|
  n_c (s_iadd (μ := n_mlaw nm) (pc := 506) dl_506) <|
  n_c (s_sald (μ := n_mlaw nm) (pc := 507) hX dl_507) <|
  n_c (s_aloadS (μ := n_mlaw nm) (pc := 508) (k := 0) dl_508) <|
  n_c (s_iload_n (μ := n_mlaw nm) (pc := 509) (k := 3) dl_509) <|
  n_c (s_iconst (μ := n_mlaw nm) (pc := 510) (n := 2) dl_510 (by decide +kernel)) <|
  n_c (s_iadd (μ := n_mlaw nm) (pc := 511) dl_511) <|
  n_c (s_sald (μ := n_mlaw nm) (pc := 512) hX dl_512) <|
  n_c (s_aloadS (μ := n_mlaw nm) (pc := 513) (k := 0) dl_513) <|
  n_c (s_iload_n (μ := n_mlaw nm) (pc := 514) (k := 3) dl_514) <|
  n_c (s_iconst (μ := n_mlaw nm) (pc := 515) (n := 3) dl_515 (by decide +kernel)) <|
  n_c (s_iadd (μ := n_mlaw nm) (pc := 516) dl_516) <|
  n_c (s_sald (μ := n_mlaw nm) (pc := 517) hX dl_517) <|
  n_c (s_aloadS (μ := n_mlaw nm) (pc := 518) (k := 0) dl_518) <|
  n_c (s_iload_n (μ := n_mlaw nm) (pc := 519) (k := 3) dl_519) <|
  n_c (s_iconst (μ := n_mlaw nm) (pc := 520) (n := 4) dl_520 (by decide +kernel)) <|
  n_c (s_iadd (μ := n_mlaw nm) (pc := 521) dl_521) <|
  n_c (s_sald (μ := n_mlaw nm) (pc := 522) hX dl_522) <|
  n_c (s_aloadS (μ := n_mlaw nm) (pc := 523) (k := 0) dl_523) <|
  n_c (s_iload_n (μ := n_mlaw nm) (pc := 524) (k := 3) dl_524) <|
  n_c (s_iconst (μ := n_mlaw nm) (pc := 525) (n := 5) dl_525 (by decide +kernel)) <|
  n_c (s_iadd (μ := n_mlaw nm) (pc := 526) dl_526) <|
  n_c (s_sald (μ := n_mlaw nm) (pc := 527) hX dl_527) <|
  n_c (s_callVc (s_callV (μ := n_mlaw nm) (pc := 528) (csX11_feed N hG) (by decide) okX11_feed nok11 w_806 w_807 w_805 dl_528) (gk1 hG)) <|
  n_c (s_aload_n (μ := n_mlaw nm) (pc := 531) (k := 2) dl_531) <|
  n_c (s_aloadS (μ := n_mlaw nm) (pc := 532) (k := 0) dl_532) <|
  n_c (s_iload_n (μ := n_mlaw nm) (pc := 533) (k := 3) dl_533) <|
  n_c (s_iconst (μ := n_mlaw nm) (pc := 534) (n := 1) dl_534 (by decide +kernel)) <|
  n_c (s_iadd (μ := n_mlaw nm) (pc := 535) dl_535) <|
  n_c (s_sald (μ := n_mlaw nm) (pc := 536) hX dl_536) <|
  n_c (s_aloadS (μ := n_mlaw nm) (pc := 537) (k := 0) dl_537) <|
  n_c (s_iload_n (μ := n_mlaw nm) (pc := 538) (k := 3) dl_538) <|
  n_c (s_iconst (μ := n_mlaw nm) (pc := 539) (n := 2) dl_539 (by decide +kernel)) <|
  n_c (s_iadd (μ := n_mlaw nm) (pc := 540) dl_540) <|
  n_c (s_sald (μ := n_mlaw nm) (pc := 541) hX dl_541) <|
  n_c (s_aloadS (μ := n_mlaw nm) (pc := 542) (k := 0) dl_542) <|
  n_c (s_iload_n (μ := n_mlaw nm) (pc := 543) (k := 3) dl_543) <|
  n_c (s_iconst (μ := n_mlaw nm) (pc := 544) (n := 3) dl_544 (by decide +kernel)) <|
  n_c (s_iadd (μ := n_mlaw nm) (pc := 545) dl_545) <|
  n_c (s_sald (μ := n_mlaw nm) (pc := 546) hX dl_546) <|
  n_c (s_aloadS (μ := n_mlaw nm) (pc := 547) (k := 0) dl_547) <|
  n_c (s_iload_n (μ := n_mlaw nm) (pc := 548) (k := 3) dl_548) <|
  n_c (s_iconst (μ := n_mlaw nm) (pc := 549) (n := 4) dl_549 (by decide +kernel)) <|
  n_c (s_iadd (μ := n_mlaw nm) (pc := 550) dl_550) <|
  n_c (s_sald (μ := n_mlaw nm) (pc := 551) hX dl_551) <|
  n_c (s_aloadS (μ := n_mlaw nm) (pc := 552) (k := 0) dl_552) <|
  n_c (s_iload_n (μ := n_mlaw nm) (pc := 553) (k := 3) dl_553) <|
  n_c (s_iconst (μ := n_mlaw nm) (pc := 554) (n := 5) dl_554 (by decide +kernel)) <|
  n_c (s_iadd (μ := n_mlaw nm) (pc := 555) dl_555) <|
  n_c (s_sald (μ := n_mlaw nm) (pc := 556) hX dl_556) <|
  n_c (s_callVc (s_callV (μ := n_mlaw nm) (pc := 557) (csX12_feed N hG) (by decide) okX12_feed nok12 w_1686 w_1687 w_1685 dl_557) (gk107 hG)) <|
  n_c (s_icmp_eq (μ := n_mlaw nm) (pc := 560) (off := 1115) dl_560 (by decide +kernel)) <|
  n_c (s_iconst (μ := n_mlaw nm) (pc := 563) (n := 0) dl_563 (by decide +kernel)) <|
  n_c (s_no) <|
  n_e
noncomputable def fl_feed (N : Nat) (G : nG) (L : Nat) (xs : Nat → Int32) (kk : Int32 → nM → Option nR) (x3 : Int32) (M : nM) : Option nR :=
  n_chk (n_ib L (x3 + (1 : Int32))) <|
  n_chk (n_ib L (x3 + (2 : Int32))) <|
  n_chk (n_ib L (x3 + (3 : Int32))) <|
  n_chk (n_ib L (x3 + (4 : Int32))) <|
  n_chk (n_ib L (x3 + (5 : Int32))) <|
  (fX11_feed N (xs (x3 + (1 : Int32)).toNatClampNeg) (xs (x3 + (2 : Int32)).toNatClampNeg) (xs (x3 + (3 : Int32)).toNatClampNeg) (xs (x3 + (4 : Int32)).toNatClampNeg) (xs (x3 + (5 : Int32)).toNatClampNeg) M).bind fun p =>
  n_chk (n_ib L (x3 + (1 : Int32))) <|
  n_chk (n_ib L (x3 + (2 : Int32))) <|
  n_chk (n_ib L (x3 + (3 : Int32))) <|
  n_chk (n_ib L (x3 + (4 : Int32))) <|
  n_chk (n_ib L (x3 + (5 : Int32))) <|
  (fX12_feed N (xs (x3 + (1 : Int32)).toNatClampNeg) (xs (x3 + (2 : Int32)).toNatClampNeg) (xs (x3 + (3 : Int32)).toNatClampNeg) (xs (x3 + (4 : Int32)).toNatClampNeg) (xs (x3 + (5 : Int32)).toNatClampNeg) p.2).bind fun q =>
  if p.1 = q.1 then kk x3 q.2 else none
set_option maxRecDepth 200000 in
theorem lc_feed {l : Launch} {w : nW} {nm : String} {G : nG} {L : Nat} {xs : Nat → Int32} (N : Nat) (hG : n_GOK G) (hX : n_PX w L xs) (hT : n_PS w) (i : Int32) (M M1 M2 : nM) (v : Int32) (r : nR) (hb1 : n_ib L (i + (1 : Int32)) = true) (hb2 : n_ib L (i + (2 : Int32)) = true) (hb3 : n_ib L (i + (3 : Int32)) = true) (hb4 : n_ib L (i + (4 : Int32)) = true) (hb5 : n_ib L (i + (5 : Int32)) = true) (h1 : fX11_feed N (xs (i + (1 : Int32)).toNatClampNeg) (xs (i + (2 : Int32)).toNatClampNeg) (xs (i + (3 : Int32)).toNatClampNeg) (xs (i + (4 : Int32)).toNatClampNeg) (xs (i + (5 : Int32)).toNatClampNeg) M = some (v, M1)) (h2 : fX12_feed N (xs (i + (1 : Int32)).toNatClampNeg) (xs (i + (2 : Int32)).toNatClampNeg) (xs (i + (3 : Int32)).toNatClampNeg) (xs (i + (4 : Int32)).toNatClampNeg) (xs (i + (5 : Int32)).toNatClampNeg) M1 = some (v, M2)) (h3 : n_Lw l w nm 1675 i (G, M2) r) : n_Lw l w nm 502 i (G, M) r :=
  n_seg (fin := fun r => r) (K := [(1675, fun lv st M => n_lS 0 lv 0 (n_lC 1 lv 1 (n_lC 107 lv 2 (n_lI lv 3 (fun x3 => n_pE st (n_one i M2 r x3 M))))))]) 61 (ia_feed N hG hX hT) (n_kc (fun lv st M' r' k => by
    obtain ⟨e0, k0⟩ := n_lS_x k
    obtain ⟨e1, k1⟩ := n_lC_x k0
    obtain ⟨e2, k2⟩ := n_lC_x k1
    obtain ⟨x3, e3, k3⟩ := n_lI_x k2
    obtain ⟨rfl, k4⟩ := n_pE_x k3
    exact n_sub (n_qc e0 (n_qc e1 (n_qc e2 (n_qc e3 n_qe)))) (by obtain ⟨rfl, rfl, rfl⟩ := n_one_x k4; exact h3)) n_ke) (F := fl_feed N G L xs (n_one i M2 r) i M) (by rfl) (by
    unfold fl_feed
    simp only [hb1, hb2, hb3, hb4, hb5, n_chk, h1, h2, Option.bind_some, ↓reduceIte, n_one_at])
noncomputable abbrev al_end (N : Nat) (G : nG) (L : Nat) (xs : Nat → Int32) : List (Nat × nO nR) := [(565, o_aload 1 566), (566, o_aloadS 0 567), (567, o_iload 3 568), (568, o_push (.int (1 : Int32)) 569), (569, o_iadd 570), (570, o_sald L xs 571), (571, o_callVc 1 1 (hX11_end) 574), (574, o_aload 2 575), (575, o_aloadS 0 576), (576, o_iload 3 577), (577, o_push (.int (1 : Int32)) 578), (578, o_iadd 579), (579, o_sald L xs 580), (580, o_callVc 107 1 (hX12_end) 583), (583, oc_eq 1675 586), (586, o_push (.int (0 : Int32)) 587), (587, o_no)]
set_option maxRecDepth 200000 in
theorem ia_end {l : Launch} {w : nW} {nm : String} {G : nG} {L : Nat} {xs : Nat → Int32} (N : Nat) (hG : n_GOK G) (hX : n_PX w L xs) (hT : n_PS w) : n_AllS l w 530 (n_mlaw nm) G (fun r => r) (al_end N G L xs) :=
  n_c (s_aload_n (μ := n_mlaw nm) (pc := 565) (k := 1) dl_565) <|
  n_c (s_aloadS (μ := n_mlaw nm) (pc := 566) (k := 0) dl_566) <|
  n_c (s_iload_n (μ := n_mlaw nm) (pc := 567) (k := 3) dl_567) <|
  n_c (s_iconst (μ := n_mlaw nm) (pc := 568) (n := 1) dl_568 (by decide +kernel)) <|
  n_c (s_iadd (μ := n_mlaw nm) (pc := 569) dl_569) <|
  n_c (s_sald (μ := n_mlaw nm) (pc := 570) hX dl_570) <|
  n_c (s_callVc (s_callV (μ := n_mlaw nm) (pc := 571) (csX11_end hG) (by decide) okX11_end nok11 w_814 w_815 w_813 dl_571) (gk1 hG)) <|
  n_c (s_aload_n (μ := n_mlaw nm) (pc := 574) (k := 2) dl_574) <|
  n_c (s_aloadS (μ := n_mlaw nm) (pc := 575) (k := 0) dl_575) <|
  n_c (s_iload_n (μ := n_mlaw nm) (pc := 576) (k := 3) dl_576) <|
  n_c (s_iconst (μ := n_mlaw nm) (pc := 577) (n := 1) dl_577 (by decide +kernel)) <|
  n_c (s_iadd (μ := n_mlaw nm) (pc := 578) dl_578) <|
  n_c (s_sald (μ := n_mlaw nm) (pc := 579) hX dl_579) <|
  n_c (s_callVc (s_callV (μ := n_mlaw nm) (pc := 580) (csX12_end hG) (by decide) okX12_end nok12 w_1694 w_1695 w_1693 dl_580) (gk107 hG)) <|
  n_c (s_icmp_eq (μ := n_mlaw nm) (pc := 583) (off := 1092) dl_583 (by decide +kernel)) <|
  n_c (s_iconst (μ := n_mlaw nm) (pc := 586) (n := 0) dl_586 (by decide +kernel)) <|
  n_c (s_no) <|
  n_e
noncomputable def fl_end (N : Nat) (G : nG) (L : Nat) (xs : Nat → Int32) (kk : Int32 → nM → Option nR) (x3 : Int32) (M : nM) : Option nR :=
  n_chk (n_ib L (x3 + (1 : Int32))) <|
  (fX11_end (xs (x3 + (1 : Int32)).toNatClampNeg) M).bind fun p =>
  n_chk (n_ib L (x3 + (1 : Int32))) <|
  (fX12_end (xs (x3 + (1 : Int32)).toNatClampNeg) p.2).bind fun q =>
  if p.1 = q.1 then kk x3 q.2 else none
set_option maxRecDepth 200000 in
theorem lc_end {l : Launch} {w : nW} {nm : String} {G : nG} {L : Nat} {xs : Nat → Int32} (N : Nat) (hG : n_GOK G) (hX : n_PX w L xs) (hT : n_PS w) (i : Int32) (M M1 M2 : nM) (v : Int32) (r : nR) (hb1 : n_ib L (i + (1 : Int32)) = true) (h1 : fX11_end (xs (i + (1 : Int32)).toNatClampNeg) M = some (v, M1)) (h2 : fX12_end (xs (i + (1 : Int32)).toNatClampNeg) M1 = some (v, M2)) (h3 : n_Lw l w nm 1675 i (G, M2) r) : n_Lw l w nm 565 i (G, M) r :=
  n_seg (fin := fun r => r) (K := [(1675, fun lv st M => n_lS 0 lv 0 (n_lC 1 lv 1 (n_lC 107 lv 2 (n_lI lv 3 (fun x3 => n_pE st (n_one i M2 r x3 M))))))]) 21 (ia_end N hG hX hT) (n_kc (fun lv st M' r' k => by
    obtain ⟨e0, k0⟩ := n_lS_x k
    obtain ⟨e1, k1⟩ := n_lC_x k0
    obtain ⟨e2, k2⟩ := n_lC_x k1
    obtain ⟨x3, e3, k3⟩ := n_lI_x k2
    obtain ⟨rfl, k4⟩ := n_pE_x k3
    exact n_sub (n_qc e0 (n_qc e1 (n_qc e2 (n_qc e3 n_qe)))) (by obtain ⟨rfl, rfl, rfl⟩ := n_one_x k4; exact h3)) n_ke) (F := fl_end N G L xs (n_one i M2 r) i M) (by rfl) (by
    unfold fl_end
    simp only [hb1, n_chk, h1, h2, Option.bind_some, ↓reduceIte, n_one_at])
noncomputable abbrev al_text (N : Nat) (G : nG) (L : Nat) (xs : Nat → Int32) : List (Nat × nO nR) := [(588, o_aload 1 589), (589, o_aloadS 0 590), (590, o_iload 3 591), (591, o_push (.int (1 : Int32)) 592), (592, o_iadd 593), (593, o_sald L xs 594), (594, o_callVc 1 1 (hX11_text N G) 597), (597, o_aload 2 598), (598, o_aloadS 0 599), (599, o_iload 3 600), (600, o_push (.int (1 : Int32)) 601), (601, o_iadd 602), (602, o_sald L xs 603), (603, o_callVc 107 1 (hX12_text N) 606), (606, oc_eq 1675 609), (609, o_push (.int (0 : Int32)) 610), (610, o_no)]
set_option maxRecDepth 200000 in
theorem ia_text {l : Launch} {w : nW} {nm : String} {G : nG} {L : Nat} {xs : Nat → Int32} (N : Nat) (hG : n_GOK G) (hX : n_PX w L xs) (hT : n_PS w) : n_AllS l w 530 (n_mlaw nm) G (fun r => r) (al_text N G L xs) :=
  n_c (s_aload_n (μ := n_mlaw nm) (pc := 588) (k := 1) dl_588) <|
  n_c (s_aloadS (μ := n_mlaw nm) (pc := 589) (k := 0) dl_589) <|
  n_c (s_iload_n (μ := n_mlaw nm) (pc := 590) (k := 3) dl_590) <|
  n_c (s_iconst (μ := n_mlaw nm) (pc := 591) (n := 1) dl_591 (by decide +kernel)) <|
  n_c (s_iadd (μ := n_mlaw nm) (pc := 592) dl_592) <|
  n_c (s_sald (μ := n_mlaw nm) (pc := 593) hX dl_593) <|
  n_c (s_callVc (s_callV (μ := n_mlaw nm) (pc := 594) (csX11_text N hG hT) (by decide) okX11_text nok11 w_818 w_819 w_817 dl_594) (gk1 hG)) <|
  n_c (s_aload_n (μ := n_mlaw nm) (pc := 597) (k := 2) dl_597) <|
  n_c (s_aloadS (μ := n_mlaw nm) (pc := 598) (k := 0) dl_598) <|
  n_c (s_iload_n (μ := n_mlaw nm) (pc := 599) (k := 3) dl_599) <|
  n_c (s_iconst (μ := n_mlaw nm) (pc := 600) (n := 1) dl_600 (by decide +kernel)) <|
  n_c (s_iadd (μ := n_mlaw nm) (pc := 601) dl_601) <|
  n_c (s_sald (μ := n_mlaw nm) (pc := 602) hX dl_602) <|
  n_c (s_callVc (s_callV (μ := n_mlaw nm) (pc := 603) (csX12_text N hG) (by decide) okX12_text nok12 w_1698 w_1699 w_1697 dl_603) (gk107 hG)) <|
  n_c (s_icmp_eq (μ := n_mlaw nm) (pc := 606) (off := 1069) dl_606 (by decide +kernel)) <|
  n_c (s_iconst (μ := n_mlaw nm) (pc := 609) (n := 0) dl_609 (by decide +kernel)) <|
  n_c (s_no) <|
  n_e
noncomputable def fl_text (N : Nat) (G : nG) (L : Nat) (xs : Nat → Int32) (kk : Int32 → nM → Option nR) (x3 : Int32) (M : nM) : Option nR :=
  n_chk (n_ib L (x3 + (1 : Int32))) <|
  (fX11_text N G (xs (x3 + (1 : Int32)).toNatClampNeg) M).bind fun p =>
  n_chk (n_ib L (x3 + (1 : Int32))) <|
  (fX12_text N (xs (x3 + (1 : Int32)).toNatClampNeg) p.2).bind fun q =>
  if p.1 = q.1 then kk x3 q.2 else none
set_option maxRecDepth 200000 in
theorem lc_text {l : Launch} {w : nW} {nm : String} {G : nG} {L : Nat} {xs : Nat → Int32} (N : Nat) (hG : n_GOK G) (hX : n_PX w L xs) (hT : n_PS w) (i : Int32) (M M1 M2 : nM) (v : Int32) (r : nR) (hb1 : n_ib L (i + (1 : Int32)) = true) (h1 : fX11_text N G (xs (i + (1 : Int32)).toNatClampNeg) M = some (v, M1)) (h2 : fX12_text N (xs (i + (1 : Int32)).toNatClampNeg) M1 = some (v, M2)) (h3 : n_Lw l w nm 1675 i (G, M2) r) : n_Lw l w nm 588 i (G, M) r :=
  n_seg (fin := fun r => r) (K := [(1675, fun lv st M => n_lS 0 lv 0 (n_lC 1 lv 1 (n_lC 107 lv 2 (n_lI lv 3 (fun x3 => n_pE st (n_one i M2 r x3 M))))))]) 21 (ia_text N hG hX hT) (n_kc (fun lv st M' r' k => by
    obtain ⟨e0, k0⟩ := n_lS_x k
    obtain ⟨e1, k1⟩ := n_lC_x k0
    obtain ⟨e2, k2⟩ := n_lC_x k1
    obtain ⟨x3, e3, k3⟩ := n_lI_x k2
    obtain ⟨rfl, k4⟩ := n_pE_x k3
    exact n_sub (n_qc e0 (n_qc e1 (n_qc e2 (n_qc e3 n_qe)))) (by obtain ⟨rfl, rfl, rfl⟩ := n_one_x k4; exact h3)) n_ke) (F := fl_text N G L xs (n_one i M2 r) i M) (by rfl) (by
    unfold fl_text
    simp only [hb1, n_chk, h1, h2, Option.bind_some, ↓reduceIte, n_one_at])
noncomputable abbrev al_fault (N : Nat) (G : nG) (L : Nat) (xs : Nat → Int32) : List (Nat × nO nR) := [(611, o_aload 1 612), (612, o_aloadS 0 613), (613, o_iload 3 614), (614, o_push (.int (1 : Int32)) 615), (615, o_iadd 616), (616, o_sald L xs 617), (617, o_callVc 1 1 (hX11_fault) 620), (620, o_aload 2 621), (621, o_aloadS 0 622), (622, o_iload 3 623), (623, o_push (.int (1 : Int32)) 624), (624, o_iadd 625), (625, o_sald L xs 626), (626, o_callVc 107 1 (hX12_fault) 629), (629, oc_eq 1675 632), (632, o_push (.int (0 : Int32)) 633), (633, o_no)]
set_option maxRecDepth 200000 in
theorem ia_fault {l : Launch} {w : nW} {nm : String} {G : nG} {L : Nat} {xs : Nat → Int32} (N : Nat) (hG : n_GOK G) (hX : n_PX w L xs) (hT : n_PS w) : n_AllS l w 530 (n_mlaw nm) G (fun r => r) (al_fault N G L xs) :=
  n_c (s_aload_n (μ := n_mlaw nm) (pc := 611) (k := 1) dl_611) <|
  n_c (s_aloadS (μ := n_mlaw nm) (pc := 612) (k := 0) dl_612) <|
  n_c (s_iload_n (μ := n_mlaw nm) (pc := 613) (k := 3) dl_613) <|
  n_c (s_iconst (μ := n_mlaw nm) (pc := 614) (n := 1) dl_614 (by decide +kernel)) <|
  n_c (s_iadd (μ := n_mlaw nm) (pc := 615) dl_615) <|
  n_c (s_sald (μ := n_mlaw nm) (pc := 616) hX dl_616) <|
  n_c (s_callVc (s_callV (μ := n_mlaw nm) (pc := 617) (csX11_fault hG) (by decide) okX11_fault nok11 w_1066 w_1067 w_1065 dl_617) (gk1 hG)) <|
  n_c (s_aload_n (μ := n_mlaw nm) (pc := 620) (k := 2) dl_620) <|
  n_c (s_aloadS (μ := n_mlaw nm) (pc := 621) (k := 0) dl_621) <|
  n_c (s_iload_n (μ := n_mlaw nm) (pc := 622) (k := 3) dl_622) <|
  n_c (s_iconst (μ := n_mlaw nm) (pc := 623) (n := 1) dl_623 (by decide +kernel)) <|
  n_c (s_iadd (μ := n_mlaw nm) (pc := 624) dl_624) <|
  n_c (s_sald (μ := n_mlaw nm) (pc := 625) hX dl_625) <|
  n_c (s_callVc (s_callV (μ := n_mlaw nm) (pc := 626) (csX12_fault hG) (by decide) okX12_fault nok12 w_1834 w_1835 w_1833 dl_626) (gk107 hG)) <|
  n_c (s_icmp_eq (μ := n_mlaw nm) (pc := 629) (off := 1046) dl_629 (by decide +kernel)) <|
  n_c (s_iconst (μ := n_mlaw nm) (pc := 632) (n := 0) dl_632 (by decide +kernel)) <|
  n_c (s_no) <|
  n_e
noncomputable def fl_fault (N : Nat) (G : nG) (L : Nat) (xs : Nat → Int32) (kk : Int32 → nM → Option nR) (x3 : Int32) (M : nM) : Option nR :=
  n_chk (n_ib L (x3 + (1 : Int32))) <|
  (fX11_fault (xs (x3 + (1 : Int32)).toNatClampNeg) M).bind fun p =>
  n_chk (n_ib L (x3 + (1 : Int32))) <|
  (fX12_fault (xs (x3 + (1 : Int32)).toNatClampNeg) p.2).bind fun q =>
  if p.1 = q.1 then kk x3 q.2 else none
set_option maxRecDepth 200000 in
theorem lc_fault {l : Launch} {w : nW} {nm : String} {G : nG} {L : Nat} {xs : Nat → Int32} (N : Nat) (hG : n_GOK G) (hX : n_PX w L xs) (hT : n_PS w) (i : Int32) (M M1 M2 : nM) (v : Int32) (r : nR) (hb1 : n_ib L (i + (1 : Int32)) = true) (h1 : fX11_fault (xs (i + (1 : Int32)).toNatClampNeg) M = some (v, M1)) (h2 : fX12_fault (xs (i + (1 : Int32)).toNatClampNeg) M1 = some (v, M2)) (h3 : n_Lw l w nm 1675 i (G, M2) r) : n_Lw l w nm 611 i (G, M) r :=
  n_seg (fin := fun r => r) (K := [(1675, fun lv st M => n_lS 0 lv 0 (n_lC 1 lv 1 (n_lC 107 lv 2 (n_lI lv 3 (fun x3 => n_pE st (n_one i M2 r x3 M))))))]) 21 (ia_fault N hG hX hT) (n_kc (fun lv st M' r' k => by
    obtain ⟨e0, k0⟩ := n_lS_x k
    obtain ⟨e1, k1⟩ := n_lC_x k0
    obtain ⟨e2, k2⟩ := n_lC_x k1
    obtain ⟨x3, e3, k3⟩ := n_lI_x k2
    obtain ⟨rfl, k4⟩ := n_pE_x k3
    exact n_sub (n_qc e0 (n_qc e1 (n_qc e2 (n_qc e3 n_qe)))) (by obtain ⟨rfl, rfl, rfl⟩ := n_one_x k4; exact h3)) n_ke) (F := fl_fault N G L xs (n_one i M2 r) i M) (by rfl) (by
    unfold fl_fault
    simp only [hb1, n_chk, h1, h2, Option.bind_some, ↓reduceIte, n_one_at])
noncomputable abbrev al_place (N : Nat) (G : nG) (L : Nat) (xs : Nat → Int32) : List (Nat × nO nR) := [(634, o_aload 1 635), (635, o_aloadS 0 636), (636, o_iload 3 637), (637, o_push (.int (1 : Int32)) 638), (638, o_iadd 639), (639, o_sald L xs 640), (640, o_aloadS 0 641), (641, o_iload 3 642), (642, o_push (.int (2 : Int32)) 643), (643, o_iadd 644), (644, o_sald L xs 645), (645, o_callVc 1 2 (hX11_place N G) 648), (648, o_aload 2 649), (649, o_aloadS 0 650), (650, o_iload 3 651), (651, o_push (.int (1 : Int32)) 652), (652, o_iadd 653), (653, o_sald L xs 654), (654, o_aloadS 0 655), (655, o_iload 3 656), (656, o_push (.int (2 : Int32)) 657), (657, o_iadd 658), (658, o_sald L xs 659), (659, o_callVc 107 2 (hX12_place N) 662), (662, oc_eq 1675 665), (665, o_push (.int (0 : Int32)) 666), (666, o_no)]
set_option maxRecDepth 200000 in
theorem ia_place {l : Launch} {w : nW} {nm : String} {G : nG} {L : Nat} {xs : Nat → Int32} (N : Nat) (hG : n_GOK G) (hX : n_PX w L xs) (hT : n_PS w) : n_AllS l w 530 (n_mlaw nm) G (fun r => r) (al_place N G L xs) :=
  n_c (s_aload_n (μ := n_mlaw nm) (pc := 634) (k := 1) dl_634) <|
  n_c (s_aloadS (μ := n_mlaw nm) (pc := 635) (k := 0) dl_635) <|
  n_c (s_iload_n (μ := n_mlaw nm) (pc := 636) (k := 3) dl_636) <|
  n_c (s_iconst (μ := n_mlaw nm) (pc := 637) (n := 1) dl_637 (by decide +kernel)) <|
  n_c (s_iadd (μ := n_mlaw nm) (pc := 638) dl_638) <|
  n_c (s_sald (μ := n_mlaw nm) (pc := 639) hX dl_639) <|
  n_c (s_aloadS (μ := n_mlaw nm) (pc := 640) (k := 0) dl_640) <|
  n_c (s_iload_n (μ := n_mlaw nm) (pc := 641) (k := 3) dl_641) <|
  n_c (s_iconst (μ := n_mlaw nm) (pc := 642) (n := 2) dl_642 (by decide +kernel)) <|
  n_c (s_iadd (μ := n_mlaw nm) (pc := 643) dl_643) <|
  n_c (s_sald (μ := n_mlaw nm) (pc := 644) hX dl_644) <|
  n_c (s_callVc (s_callV (μ := n_mlaw nm) (pc := 645) (csX11_place N hG) (by decide) okX11_place nok11 w_1070 w_1071 w_1069 dl_645) (gk1 hG)) <|
  n_c (s_aload_n (μ := n_mlaw nm) (pc := 648) (k := 2) dl_648) <|
  n_c (s_aloadS (μ := n_mlaw nm) (pc := 649) (k := 0) dl_649) <|
  n_c (s_iload_n (μ := n_mlaw nm) (pc := 650) (k := 3) dl_650) <|
  n_c (s_iconst (μ := n_mlaw nm) (pc := 651) (n := 1) dl_651 (by decide +kernel)) <|
  n_c (s_iadd (μ := n_mlaw nm) (pc := 652) dl_652) <|
  n_c (s_sald (μ := n_mlaw nm) (pc := 653) hX dl_653) <|
  n_c (s_aloadS (μ := n_mlaw nm) (pc := 654) (k := 0) dl_654) <|
  n_c (s_iload_n (μ := n_mlaw nm) (pc := 655) (k := 3) dl_655) <|
  n_c (s_iconst (μ := n_mlaw nm) (pc := 656) (n := 2) dl_656 (by decide +kernel)) <|
  n_c (s_iadd (μ := n_mlaw nm) (pc := 657) dl_657) <|
  n_c (s_sald (μ := n_mlaw nm) (pc := 658) hX dl_658) <|
  n_c (s_callVc (s_callV (μ := n_mlaw nm) (pc := 659) (csX12_place N hG) (by decide) okX12_place nok12 w_1948 w_1949 w_1947 dl_659) (gk107 hG)) <|
  n_c (s_icmp_eq (μ := n_mlaw nm) (pc := 662) (off := 1013) dl_662 (by decide +kernel)) <|
  n_c (s_iconst (μ := n_mlaw nm) (pc := 665) (n := 0) dl_665 (by decide +kernel)) <|
  n_c (s_no) <|
  n_e
noncomputable def fl_place (N : Nat) (G : nG) (L : Nat) (xs : Nat → Int32) (kk : Int32 → nM → Option nR) (x3 : Int32) (M : nM) : Option nR :=
  n_chk (n_ib L (x3 + (1 : Int32))) <|
  n_chk (n_ib L (x3 + (2 : Int32))) <|
  (fX11_place N G (xs (x3 + (1 : Int32)).toNatClampNeg) (xs (x3 + (2 : Int32)).toNatClampNeg) M).bind fun p =>
  n_chk (n_ib L (x3 + (1 : Int32))) <|
  n_chk (n_ib L (x3 + (2 : Int32))) <|
  (fX12_place N (xs (x3 + (1 : Int32)).toNatClampNeg) (xs (x3 + (2 : Int32)).toNatClampNeg) p.2).bind fun q =>
  if p.1 = q.1 then kk x3 q.2 else none
set_option maxRecDepth 200000 in
theorem lc_place {l : Launch} {w : nW} {nm : String} {G : nG} {L : Nat} {xs : Nat → Int32} (N : Nat) (hG : n_GOK G) (hX : n_PX w L xs) (hT : n_PS w) (i : Int32) (M M1 M2 : nM) (v : Int32) (r : nR) (hb1 : n_ib L (i + (1 : Int32)) = true) (hb2 : n_ib L (i + (2 : Int32)) = true) (h1 : fX11_place N G (xs (i + (1 : Int32)).toNatClampNeg) (xs (i + (2 : Int32)).toNatClampNeg) M = some (v, M1)) (h2 : fX12_place N (xs (i + (1 : Int32)).toNatClampNeg) (xs (i + (2 : Int32)).toNatClampNeg) M1 = some (v, M2)) (h3 : n_Lw l w nm 1675 i (G, M2) r) : n_Lw l w nm 634 i (G, M) r :=
  n_seg (fin := fun r => r) (K := [(1675, fun lv st M => n_lS 0 lv 0 (n_lC 1 lv 1 (n_lC 107 lv 2 (n_lI lv 3 (fun x3 => n_pE st (n_one i M2 r x3 M))))))]) 31 (ia_place N hG hX hT) (n_kc (fun lv st M' r' k => by
    obtain ⟨e0, k0⟩ := n_lS_x k
    obtain ⟨e1, k1⟩ := n_lC_x k0
    obtain ⟨e2, k2⟩ := n_lC_x k1
    obtain ⟨x3, e3, k3⟩ := n_lI_x k2
    obtain ⟨rfl, k4⟩ := n_pE_x k3
    exact n_sub (n_qc e0 (n_qc e1 (n_qc e2 (n_qc e3 n_qe)))) (by obtain ⟨rfl, rfl, rfl⟩ := n_one_x k4; exact h3)) n_ke) (F := fl_place N G L xs (n_one i M2 r) i M) (by rfl) (by
    unfold fl_place
    simp only [hb1, hb2, n_chk, h1, h2, Option.bind_some, ↓reduceIte, n_one_at])
noncomputable abbrev al_of (N : Nat) (G : nG) (L : Nat) (xs : Nat → Int32) : List (Nat × nO nR) := [(667, o_aload 1 668), (668, o_aloadS 0 669), (669, o_iload 3 670), (670, o_push (.int (1 : Int32)) 671), (671, o_iadd 672), (672, o_sald L xs 673), (673, o_aloadS 0 674), (674, o_iload 3 675), (675, o_push (.int (2 : Int32)) 676), (676, o_iadd 677), (677, o_sald L xs 678), (678, o_callVc 1 2 (hX11_of) 681), (681, o_aload 2 682), (682, o_aloadS 0 683), (683, o_iload 3 684), (684, o_push (.int (1 : Int32)) 685), (685, o_iadd 686), (686, o_sald L xs 687), (687, o_aloadS 0 688), (688, o_iload 3 689), (689, o_push (.int (2 : Int32)) 690), (690, o_iadd 691), (691, o_sald L xs 692), (692, o_callVc 107 2 (hX12_of) 695), (695, oc_eq 1675 698), (698, o_push (.int (0 : Int32)) 699), (699, o_no)]
set_option maxRecDepth 200000 in
theorem ia_of {l : Launch} {w : nW} {nm : String} {G : nG} {L : Nat} {xs : Nat → Int32} (N : Nat) (hG : n_GOK G) (hX : n_PX w L xs) (hT : n_PS w) : n_AllS l w 530 (n_mlaw nm) G (fun r => r) (al_of N G L xs) :=
  n_c (s_aload_n (μ := n_mlaw nm) (pc := 667) (k := 1) dl_667) <|
  n_c (s_aloadS (μ := n_mlaw nm) (pc := 668) (k := 0) dl_668) <|
  n_c (s_iload_n (μ := n_mlaw nm) (pc := 669) (k := 3) dl_669) <|
  n_c (s_iconst (μ := n_mlaw nm) (pc := 670) (n := 1) dl_670 (by decide +kernel)) <|
  n_c (s_iadd (μ := n_mlaw nm) (pc := 671) dl_671) <|
  n_c (s_sald (μ := n_mlaw nm) (pc := 672) hX dl_672) <|
  n_c (s_aloadS (μ := n_mlaw nm) (pc := 673) (k := 0) dl_673) <|
  n_c (s_iload_n (μ := n_mlaw nm) (pc := 674) (k := 3) dl_674) <|
  n_c (s_iconst (μ := n_mlaw nm) (pc := 675) (n := 2) dl_675 (by decide +kernel)) <|
  n_c (s_iadd (μ := n_mlaw nm) (pc := 676) dl_676) <|
  n_c (s_sald (μ := n_mlaw nm) (pc := 677) hX dl_677) <|
  n_c (s_callVc (s_callV (μ := n_mlaw nm) (pc := 678) (csX11_of hG) (by decide) okX11_of nok11 w_1080 w_1081 w_1079 dl_678) (gk1 hG)) <|
  n_c (s_aload_n (μ := n_mlaw nm) (pc := 681) (k := 2) dl_681) <|
  n_c (s_aloadS (μ := n_mlaw nm) (pc := 682) (k := 0) dl_682) <|
  n_c (s_iload_n (μ := n_mlaw nm) (pc := 683) (k := 3) dl_683) <|
  n_c (s_iconst (μ := n_mlaw nm) (pc := 684) (n := 1) dl_684 (by decide +kernel)) <|
  n_c (s_iadd (μ := n_mlaw nm) (pc := 685) dl_685) <|
  n_c (s_sald (μ := n_mlaw nm) (pc := 686) hX dl_686) <|
  n_c (s_aloadS (μ := n_mlaw nm) (pc := 687) (k := 0) dl_687) <|
  n_c (s_iload_n (μ := n_mlaw nm) (pc := 688) (k := 3) dl_688) <|
  n_c (s_iconst (μ := n_mlaw nm) (pc := 689) (n := 2) dl_689 (by decide +kernel)) <|
  n_c (s_iadd (μ := n_mlaw nm) (pc := 690) dl_690) <|
  n_c (s_sald (μ := n_mlaw nm) (pc := 691) hX dl_691) <|
  n_c (s_callVc (s_callV (μ := n_mlaw nm) (pc := 692) (csX12_of hG) (by decide) okX12_of nok12 w_1956 w_1957 w_1955 dl_692) (gk107 hG)) <|
  n_c (s_icmp_eq (μ := n_mlaw nm) (pc := 695) (off := 980) dl_695 (by decide +kernel)) <|
  n_c (s_iconst (μ := n_mlaw nm) (pc := 698) (n := 0) dl_698 (by decide +kernel)) <|
  n_c (s_no) <|
  n_e
noncomputable def fl_of (N : Nat) (G : nG) (L : Nat) (xs : Nat → Int32) (kk : Int32 → nM → Option nR) (x3 : Int32) (M : nM) : Option nR :=
  n_chk (n_ib L (x3 + (1 : Int32))) <|
  n_chk (n_ib L (x3 + (2 : Int32))) <|
  (fX11_of (xs (x3 + (1 : Int32)).toNatClampNeg) (xs (x3 + (2 : Int32)).toNatClampNeg) M).bind fun p =>
  n_chk (n_ib L (x3 + (1 : Int32))) <|
  n_chk (n_ib L (x3 + (2 : Int32))) <|
  (fX12_of (xs (x3 + (1 : Int32)).toNatClampNeg) (xs (x3 + (2 : Int32)).toNatClampNeg) p.2).bind fun q =>
  if p.1 = q.1 then kk x3 q.2 else none
set_option maxRecDepth 200000 in
theorem lc_of {l : Launch} {w : nW} {nm : String} {G : nG} {L : Nat} {xs : Nat → Int32} (N : Nat) (hG : n_GOK G) (hX : n_PX w L xs) (hT : n_PS w) (i : Int32) (M M1 M2 : nM) (v : Int32) (r : nR) (hb1 : n_ib L (i + (1 : Int32)) = true) (hb2 : n_ib L (i + (2 : Int32)) = true) (h1 : fX11_of (xs (i + (1 : Int32)).toNatClampNeg) (xs (i + (2 : Int32)).toNatClampNeg) M = some (v, M1)) (h2 : fX12_of (xs (i + (1 : Int32)).toNatClampNeg) (xs (i + (2 : Int32)).toNatClampNeg) M1 = some (v, M2)) (h3 : n_Lw l w nm 1675 i (G, M2) r) : n_Lw l w nm 667 i (G, M) r :=
  n_seg (fin := fun r => r) (K := [(1675, fun lv st M => n_lS 0 lv 0 (n_lC 1 lv 1 (n_lC 107 lv 2 (n_lI lv 3 (fun x3 => n_pE st (n_one i M2 r x3 M))))))]) 31 (ia_of N hG hX hT) (n_kc (fun lv st M' r' k => by
    obtain ⟨e0, k0⟩ := n_lS_x k
    obtain ⟨e1, k1⟩ := n_lC_x k0
    obtain ⟨e2, k2⟩ := n_lC_x k1
    obtain ⟨x3, e3, k3⟩ := n_lI_x k2
    obtain ⟨rfl, k4⟩ := n_pE_x k3
    exact n_sub (n_qc e0 (n_qc e1 (n_qc e2 (n_qc e3 n_qe)))) (by obtain ⟨rfl, rfl, rfl⟩ := n_one_x k4; exact h3)) n_ke) (F := fl_of N G L xs (n_one i M2 r) i M) (by rfl) (by
    unfold fl_of
    simp only [hb1, hb2, n_chk, h1, h2, Option.bind_some, ↓reduceIte, n_one_at])
noncomputable abbrev al_who (N : Nat) (G : nG) (L : Nat) (xs : Nat → Int32) : List (Nat × nO nR) := [(700, o_aload 1 701), (701, o_aloadS 0 702), (702, o_iload 3 703), (703, o_push (.int (1 : Int32)) 704), (704, o_iadd 705), (705, o_sald L xs 706), (706, o_aloadS 0 707), (707, o_iload 3 708), (708, o_push (.int (2 : Int32)) 709), (709, o_iadd 710), (710, o_sald L xs 711), (711, o_callVc 1 2 (hX11_who N G) 714), (714, o_aload 2 715), (715, o_aloadS 0 716), (716, o_iload 3 717), (717, o_push (.int (1 : Int32)) 718), (718, o_iadd 719), (719, o_sald L xs 720), (720, o_aloadS 0 721), (721, o_iload 3 722), (722, o_push (.int (2 : Int32)) 723), (723, o_iadd 724), (724, o_sald L xs 725), (725, o_callVc 107 2 (hX12_who) 728), (728, oc_eq 1675 731), (731, o_push (.int (0 : Int32)) 732), (732, o_no)]
set_option maxRecDepth 200000 in
theorem ia_who {l : Launch} {w : nW} {nm : String} {G : nG} {L : Nat} {xs : Nat → Int32} (N : Nat) (hG : n_GOK G) (hX : n_PX w L xs) (hT : n_PS w) : n_AllS l w 530 (n_mlaw nm) G (fun r => r) (al_who N G L xs) :=
  n_c (s_aload_n (μ := n_mlaw nm) (pc := 700) (k := 1) dl_700) <|
  n_c (s_aloadS (μ := n_mlaw nm) (pc := 701) (k := 0) dl_701) <|
  n_c (s_iload_n (μ := n_mlaw nm) (pc := 702) (k := 3) dl_702) <|
  n_c (s_iconst (μ := n_mlaw nm) (pc := 703) (n := 1) dl_703 (by decide +kernel)) <|
  n_c (s_iadd (μ := n_mlaw nm) (pc := 704) dl_704) <|
  n_c (s_sald (μ := n_mlaw nm) (pc := 705) hX dl_705) <|
  n_c (s_aloadS (μ := n_mlaw nm) (pc := 706) (k := 0) dl_706) <|
  n_c (s_iload_n (μ := n_mlaw nm) (pc := 707) (k := 3) dl_707) <|
  n_c (s_iconst (μ := n_mlaw nm) (pc := 708) (n := 2) dl_708 (by decide +kernel)) <|
  n_c (s_iadd (μ := n_mlaw nm) (pc := 709) dl_709) <|
  n_c (s_sald (μ := n_mlaw nm) (pc := 710) hX dl_710) <|
  n_c (s_callVc (s_callV (μ := n_mlaw nm) (pc := 711) (csX11_who N hG) (by decide) okX11_who nok11 w_1084 w_1085 w_1083 dl_711) (gk1 hG)) <|
  n_c (s_aload_n (μ := n_mlaw nm) (pc := 714) (k := 2) dl_714) <|
  n_c (s_aloadS (μ := n_mlaw nm) (pc := 715) (k := 0) dl_715) <|
  n_c (s_iload_n (μ := n_mlaw nm) (pc := 716) (k := 3) dl_716) <|
  n_c (s_iconst (μ := n_mlaw nm) (pc := 717) (n := 1) dl_717 (by decide +kernel)) <|
  n_c (s_iadd (μ := n_mlaw nm) (pc := 718) dl_718) <|
  n_c (s_sald (μ := n_mlaw nm) (pc := 719) hX dl_719) <|
  n_c (s_aloadS (μ := n_mlaw nm) (pc := 720) (k := 0) dl_720) <|
  n_c (s_iload_n (μ := n_mlaw nm) (pc := 721) (k := 3) dl_721) <|
  n_c (s_iconst (μ := n_mlaw nm) (pc := 722) (n := 2) dl_722 (by decide +kernel)) <|
  n_c (s_iadd (μ := n_mlaw nm) (pc := 723) dl_723) <|
  n_c (s_sald (μ := n_mlaw nm) (pc := 724) hX dl_724) <|
  n_c (s_callVc (s_callV (μ := n_mlaw nm) (pc := 725) (csX12_who hG) (by decide) okX12_who nok12 w_1960 w_1961 w_1959 dl_725) (gk107 hG)) <|
  n_c (s_icmp_eq (μ := n_mlaw nm) (pc := 728) (off := 947) dl_728 (by decide +kernel)) <|
  n_c (s_iconst (μ := n_mlaw nm) (pc := 731) (n := 0) dl_731 (by decide +kernel)) <|
  n_c (s_no) <|
  n_e
noncomputable def fl_who (N : Nat) (G : nG) (L : Nat) (xs : Nat → Int32) (kk : Int32 → nM → Option nR) (x3 : Int32) (M : nM) : Option nR :=
  n_chk (n_ib L (x3 + (1 : Int32))) <|
  n_chk (n_ib L (x3 + (2 : Int32))) <|
  (fX11_who N G (xs (x3 + (1 : Int32)).toNatClampNeg) (xs (x3 + (2 : Int32)).toNatClampNeg) M).bind fun p =>
  n_chk (n_ib L (x3 + (1 : Int32))) <|
  n_chk (n_ib L (x3 + (2 : Int32))) <|
  (fX12_who (xs (x3 + (1 : Int32)).toNatClampNeg) (xs (x3 + (2 : Int32)).toNatClampNeg) p.2).bind fun q =>
  if p.1 = q.1 then kk x3 q.2 else none
set_option maxRecDepth 200000 in
theorem lc_who {l : Launch} {w : nW} {nm : String} {G : nG} {L : Nat} {xs : Nat → Int32} (N : Nat) (hG : n_GOK G) (hX : n_PX w L xs) (hT : n_PS w) (i : Int32) (M M1 M2 : nM) (v : Int32) (r : nR) (hb1 : n_ib L (i + (1 : Int32)) = true) (hb2 : n_ib L (i + (2 : Int32)) = true) (h1 : fX11_who N G (xs (i + (1 : Int32)).toNatClampNeg) (xs (i + (2 : Int32)).toNatClampNeg) M = some (v, M1)) (h2 : fX12_who (xs (i + (1 : Int32)).toNatClampNeg) (xs (i + (2 : Int32)).toNatClampNeg) M1 = some (v, M2)) (h3 : n_Lw l w nm 1675 i (G, M2) r) : n_Lw l w nm 700 i (G, M) r :=
  n_seg (fin := fun r => r) (K := [(1675, fun lv st M => n_lS 0 lv 0 (n_lC 1 lv 1 (n_lC 107 lv 2 (n_lI lv 3 (fun x3 => n_pE st (n_one i M2 r x3 M))))))]) 31 (ia_who N hG hX hT) (n_kc (fun lv st M' r' k => by
    obtain ⟨e0, k0⟩ := n_lS_x k
    obtain ⟨e1, k1⟩ := n_lC_x k0
    obtain ⟨e2, k2⟩ := n_lC_x k1
    obtain ⟨x3, e3, k3⟩ := n_lI_x k2
    obtain ⟨rfl, k4⟩ := n_pE_x k3
    exact n_sub (n_qc e0 (n_qc e1 (n_qc e2 (n_qc e3 n_qe)))) (by obtain ⟨rfl, rfl, rfl⟩ := n_one_x k4; exact h3)) n_ke) (F := fl_who N G L xs (n_one i M2 r) i M) (by rfl) (by
    unfold fl_who
    simp only [hb1, hb2, n_chk, h1, h2, Option.bind_some, ↓reduceIte, n_one_at])
noncomputable abbrev al_tells (N : Nat) (G : nG) (L : Nat) (xs : Nat → Int32) : List (Nat × nO nR) := [(733, o_aload 1 734), (734, o_aloadS 0 735), (735, o_iload 3 736), (736, o_push (.int (1 : Int32)) 737), (737, o_iadd 738), (738, o_sald L xs 739), (739, o_aloadS 0 740), (740, o_iload 3 741), (741, o_push (.int (2 : Int32)) 742), (742, o_iadd 743), (743, o_sald L xs 744), (744, o_aloadS 0 745), (745, o_iload 3 746), (746, o_push (.int (3 : Int32)) 747), (747, o_iadd 748), (748, o_sald L xs 749), (749, o_aloadS 0 750), (750, o_iload 3 751), (751, o_push (.int (4 : Int32)) 752), (752, o_iadd 753), (753, o_sald L xs 754), (754, o_callVc 1 4 (hX11_tells N G) 757), (757, o_aload 2 758), (758, o_aloadS 0 759), (759, o_iload 3 760), (760, o_push (.int (1 : Int32)) 761), (761, o_iadd 762), (762, o_sald L xs 763), (763, o_aloadS 0 764), (764, o_iload 3 765), (765, o_push (.int (2 : Int32)) 766), (766, o_iadd 767), (767, o_sald L xs 768), (768, o_aloadS 0 769), (769, o_iload 3 770), (770, o_push (.int (3 : Int32)) 771), (771, o_iadd 772), (772, o_sald L xs 773), (773, o_aloadS 0 774), (774, o_iload 3 775), (775, o_push (.int (4 : Int32)) 776), (776, o_iadd 777), (777, o_sald L xs 778), (778, o_callVc 107 4 (hX12_tells N) 781), (781, oc_eq 1675 784), (784, o_push (.int (0 : Int32)) 785), (785, o_no)]
set_option maxRecDepth 200000 in
theorem ia_tells {l : Launch} {w : nW} {nm : String} {G : nG} {L : Nat} {xs : Nat → Int32} (N : Nat) (hG : n_GOK G) (hX : n_PX w L xs) (hT : n_PS w) : n_AllS l w 530 (n_mlaw nm) G (fun r => r) (al_tells N G L xs) :=
  n_c (s_aload_n (μ := n_mlaw nm) (pc := 733) (k := 1) dl_733) <|
  n_c (s_aloadS (μ := n_mlaw nm) (pc := 734) (k := 0) dl_734) <|
  n_c (s_iload_n (μ := n_mlaw nm) (pc := 735) (k := 3) dl_735) <|
  n_c (s_iconst (μ := n_mlaw nm) (pc := 736) (n := 1) dl_736 (by decide +kernel)) <|
  n_c (s_iadd (μ := n_mlaw nm) (pc := 737) dl_737) <|
  n_c (s_sald (μ := n_mlaw nm) (pc := 738) hX dl_738) <|
  n_c (s_aloadS (μ := n_mlaw nm) (pc := 739) (k := 0) dl_739) <|
  n_c (s_iload_n (μ := n_mlaw nm) (pc := 740) (k := 3) dl_740) <|
  n_c (s_iconst (μ := n_mlaw nm) (pc := 741) (n := 2) dl_741 (by decide +kernel)) <|
  n_c (s_iadd (μ := n_mlaw nm) (pc := 742) dl_742) <|
  n_c (s_sald (μ := n_mlaw nm) (pc := 743) hX dl_743) <|
  n_c (s_aloadS (μ := n_mlaw nm) (pc := 744) (k := 0) dl_744) <|
  n_c (s_iload_n (μ := n_mlaw nm) (pc := 745) (k := 3) dl_745) <|
  n_c (s_iconst (μ := n_mlaw nm) (pc := 746) (n := 3) dl_746 (by decide +kernel)) <|
  n_c (s_iadd (μ := n_mlaw nm) (pc := 747) dl_747) <|
  n_c (s_sald (μ := n_mlaw nm) (pc := 748) hX dl_748) <|
  n_c (s_aloadS (μ := n_mlaw nm) (pc := 749) (k := 0) dl_749) <|
  n_c (s_iload_n (μ := n_mlaw nm) (pc := 750) (k := 3) dl_750) <|
  n_c (s_iconst (μ := n_mlaw nm) (pc := 751) (n := 4) dl_751 (by decide +kernel)) <|
  n_c (s_iadd (μ := n_mlaw nm) (pc := 752) dl_752) <|
  n_c (s_sald (μ := n_mlaw nm) (pc := 753) hX dl_753) <|
  n_c (s_callVc (s_callV (μ := n_mlaw nm) (pc := 754) (csX11_tells N hG) (by decide) okX11_tells nok11 w_1094 w_1095 w_1093 dl_754) (gk1 hG)) <|
  n_c (s_aload_n (μ := n_mlaw nm) (pc := 757) (k := 2) dl_757) <|
  n_c (s_aloadS (μ := n_mlaw nm) (pc := 758) (k := 0) dl_758) <|
  n_c (s_iload_n (μ := n_mlaw nm) (pc := 759) (k := 3) dl_759) <|
  n_c (s_iconst (μ := n_mlaw nm) (pc := 760) (n := 1) dl_760 (by decide +kernel)) <|
  n_c (s_iadd (μ := n_mlaw nm) (pc := 761) dl_761) <|
  n_c (s_sald (μ := n_mlaw nm) (pc := 762) hX dl_762) <|
  n_c (s_aloadS (μ := n_mlaw nm) (pc := 763) (k := 0) dl_763) <|
  n_c (s_iload_n (μ := n_mlaw nm) (pc := 764) (k := 3) dl_764) <|
  n_c (s_iconst (μ := n_mlaw nm) (pc := 765) (n := 2) dl_765 (by decide +kernel)) <|
  n_c (s_iadd (μ := n_mlaw nm) (pc := 766) dl_766) <|
  n_c (s_sald (μ := n_mlaw nm) (pc := 767) hX dl_767) <|
  n_c (s_aloadS (μ := n_mlaw nm) (pc := 768) (k := 0) dl_768) <|
  n_c (s_iload_n (μ := n_mlaw nm) (pc := 769) (k := 3) dl_769) <|
  n_c (s_iconst (μ := n_mlaw nm) (pc := 770) (n := 3) dl_770 (by decide +kernel)) <|
  n_c (s_iadd (μ := n_mlaw nm) (pc := 771) dl_771) <|
  n_c (s_sald (μ := n_mlaw nm) (pc := 772) hX dl_772) <|
  n_c (s_aloadS (μ := n_mlaw nm) (pc := 773) (k := 0) dl_773) <|
  n_c (s_iload_n (μ := n_mlaw nm) (pc := 774) (k := 3) dl_774) <|
  n_c (s_iconst (μ := n_mlaw nm) (pc := 775) (n := 4) dl_775 (by decide +kernel)) <|
  n_c (s_iadd (μ := n_mlaw nm) (pc := 776) dl_776) <|
  n_c (s_sald (μ := n_mlaw nm) (pc := 777) hX dl_777) <|
  n_c (s_callVc (s_callV (μ := n_mlaw nm) (pc := 778) (csX12_tells N hG) (by decide) okX12_tells nok12 w_1964 w_1965 w_1963 dl_778) (gk107 hG)) <|
  n_c (s_icmp_eq (μ := n_mlaw nm) (pc := 781) (off := 894) dl_781 (by decide +kernel)) <|
  n_c (s_iconst (μ := n_mlaw nm) (pc := 784) (n := 0) dl_784 (by decide +kernel)) <|
  n_c (s_no) <|
  n_e
noncomputable def fl_tells (N : Nat) (G : nG) (L : Nat) (xs : Nat → Int32) (kk : Int32 → nM → Option nR) (x3 : Int32) (M : nM) : Option nR :=
  n_chk (n_ib L (x3 + (1 : Int32))) <|
  n_chk (n_ib L (x3 + (2 : Int32))) <|
  n_chk (n_ib L (x3 + (3 : Int32))) <|
  n_chk (n_ib L (x3 + (4 : Int32))) <|
  (fX11_tells N G (xs (x3 + (1 : Int32)).toNatClampNeg) (xs (x3 + (2 : Int32)).toNatClampNeg) (xs (x3 + (3 : Int32)).toNatClampNeg) (xs (x3 + (4 : Int32)).toNatClampNeg) M).bind fun p =>
  n_chk (n_ib L (x3 + (1 : Int32))) <|
  n_chk (n_ib L (x3 + (2 : Int32))) <|
  n_chk (n_ib L (x3 + (3 : Int32))) <|
  n_chk (n_ib L (x3 + (4 : Int32))) <|
  (fX12_tells N (xs (x3 + (1 : Int32)).toNatClampNeg) (xs (x3 + (2 : Int32)).toNatClampNeg) (xs (x3 + (3 : Int32)).toNatClampNeg) (xs (x3 + (4 : Int32)).toNatClampNeg) p.2).bind fun q =>
  if p.1 = q.1 then kk x3 q.2 else none
set_option maxRecDepth 200000 in
theorem lc_tells {l : Launch} {w : nW} {nm : String} {G : nG} {L : Nat} {xs : Nat → Int32} (N : Nat) (hG : n_GOK G) (hX : n_PX w L xs) (hT : n_PS w) (i : Int32) (M M1 M2 : nM) (v : Int32) (r : nR) (hb1 : n_ib L (i + (1 : Int32)) = true) (hb2 : n_ib L (i + (2 : Int32)) = true) (hb3 : n_ib L (i + (3 : Int32)) = true) (hb4 : n_ib L (i + (4 : Int32)) = true) (h1 : fX11_tells N G (xs (i + (1 : Int32)).toNatClampNeg) (xs (i + (2 : Int32)).toNatClampNeg) (xs (i + (3 : Int32)).toNatClampNeg) (xs (i + (4 : Int32)).toNatClampNeg) M = some (v, M1)) (h2 : fX12_tells N (xs (i + (1 : Int32)).toNatClampNeg) (xs (i + (2 : Int32)).toNatClampNeg) (xs (i + (3 : Int32)).toNatClampNeg) (xs (i + (4 : Int32)).toNatClampNeg) M1 = some (v, M2)) (h3 : n_Lw l w nm 1675 i (G, M2) r) : n_Lw l w nm 733 i (G, M) r :=
  n_seg (fin := fun r => r) (K := [(1675, fun lv st M => n_lS 0 lv 0 (n_lC 1 lv 1 (n_lC 107 lv 2 (n_lI lv 3 (fun x3 => n_pE st (n_one i M2 r x3 M))))))]) 51 (ia_tells N hG hX hT) (n_kc (fun lv st M' r' k => by
    obtain ⟨e0, k0⟩ := n_lS_x k
    obtain ⟨e1, k1⟩ := n_lC_x k0
    obtain ⟨e2, k2⟩ := n_lC_x k1
    obtain ⟨x3, e3, k3⟩ := n_lI_x k2
    obtain ⟨rfl, k4⟩ := n_pE_x k3
    exact n_sub (n_qc e0 (n_qc e1 (n_qc e2 (n_qc e3 n_qe)))) (by obtain ⟨rfl, rfl, rfl⟩ := n_one_x k4; exact h3)) n_ke) (F := fl_tells N G L xs (n_one i M2 r) i M) (by rfl) (by
    unfold fl_tells
    simp only [hb1, hb2, hb3, hb4, n_chk, h1, h2, Option.bind_some, ↓reduceIte, n_one_at])
noncomputable abbrev al_book (N : Nat) (G : nG) (L : Nat) (xs : Nat → Int32) : List (Nat × nO nR) := [(786, o_aload 1 787), (787, o_aloadS 0 788), (788, o_iload 3 789), (789, o_push (.int (1 : Int32)) 790), (790, o_iadd 791), (791, o_sald L xs 792), (792, o_aloadS 0 793), (793, o_iload 3 794), (794, o_push (.int (2 : Int32)) 795), (795, o_iadd 796), (796, o_sald L xs 797), (797, o_callVc 1 2 (hX11_book G) 800), (800, o_aload 2 801), (801, o_aloadS 0 802), (802, o_iload 3 803), (803, o_push (.int (1 : Int32)) 804), (804, o_iadd 805), (805, o_sald L xs 806), (806, o_aloadS 0 807), (807, o_iload 3 808), (808, o_push (.int (2 : Int32)) 809), (809, o_iadd 810), (810, o_sald L xs 811), (811, o_callVc 107 2 (hX12_book) 814), (814, oc_eq 1675 817), (817, o_push (.int (0 : Int32)) 818), (818, o_no)]
set_option maxRecDepth 200000 in
theorem ia_book {l : Launch} {w : nW} {nm : String} {G : nG} {L : Nat} {xs : Nat → Int32} (N : Nat) (hG : n_GOK G) (hX : n_PX w L xs) (hT : n_PS w) : n_AllS l w 530 (n_mlaw nm) G (fun r => r) (al_book N G L xs) :=
  n_c (s_aload_n (μ := n_mlaw nm) (pc := 786) (k := 1) dl_786) <|
  n_c (s_aloadS (μ := n_mlaw nm) (pc := 787) (k := 0) dl_787) <|
  n_c (s_iload_n (μ := n_mlaw nm) (pc := 788) (k := 3) dl_788) <|
  n_c (s_iconst (μ := n_mlaw nm) (pc := 789) (n := 1) dl_789 (by decide +kernel)) <|
  n_c (s_iadd (μ := n_mlaw nm) (pc := 790) dl_790) <|
  n_c (s_sald (μ := n_mlaw nm) (pc := 791) hX dl_791) <|
  n_c (s_aloadS (μ := n_mlaw nm) (pc := 792) (k := 0) dl_792) <|
  n_c (s_iload_n (μ := n_mlaw nm) (pc := 793) (k := 3) dl_793) <|
  n_c (s_iconst (μ := n_mlaw nm) (pc := 794) (n := 2) dl_794 (by decide +kernel)) <|
  n_c (s_iadd (μ := n_mlaw nm) (pc := 795) dl_795) <|
  n_c (s_sald (μ := n_mlaw nm) (pc := 796) hX dl_796) <|
  n_c (s_callVc (s_callV (μ := n_mlaw nm) (pc := 797) (csX11_book hG) (by decide) okX11_book nok11 w_1099 w_1100 w_1098 dl_797) (gk1 hG)) <|
  n_c (s_aload_n (μ := n_mlaw nm) (pc := 800) (k := 2) dl_800) <|
  n_c (s_aloadS (μ := n_mlaw nm) (pc := 801) (k := 0) dl_801) <|
  n_c (s_iload_n (μ := n_mlaw nm) (pc := 802) (k := 3) dl_802) <|
  n_c (s_iconst (μ := n_mlaw nm) (pc := 803) (n := 1) dl_803 (by decide +kernel)) <|
  n_c (s_iadd (μ := n_mlaw nm) (pc := 804) dl_804) <|
  n_c (s_sald (μ := n_mlaw nm) (pc := 805) hX dl_805) <|
  n_c (s_aloadS (μ := n_mlaw nm) (pc := 806) (k := 0) dl_806) <|
  n_c (s_iload_n (μ := n_mlaw nm) (pc := 807) (k := 3) dl_807) <|
  n_c (s_iconst (μ := n_mlaw nm) (pc := 808) (n := 2) dl_808 (by decide +kernel)) <|
  n_c (s_iadd (μ := n_mlaw nm) (pc := 809) dl_809) <|
  n_c (s_sald (μ := n_mlaw nm) (pc := 810) hX dl_810) <|
  n_c (s_callVc (s_callV (μ := n_mlaw nm) (pc := 811) (csX12_book hG) (by decide) okX12_book nok12 w_1968 w_1969 w_1967 dl_811) (gk107 hG)) <|
  n_c (s_icmp_eq (μ := n_mlaw nm) (pc := 814) (off := 861) dl_814 (by decide +kernel)) <|
  n_c (s_iconst (μ := n_mlaw nm) (pc := 817) (n := 0) dl_817 (by decide +kernel)) <|
  n_c (s_no) <|
  n_e
noncomputable def fl_book (N : Nat) (G : nG) (L : Nat) (xs : Nat → Int32) (kk : Int32 → nM → Option nR) (x3 : Int32) (M : nM) : Option nR :=
  n_chk (n_ib L (x3 + (1 : Int32))) <|
  n_chk (n_ib L (x3 + (2 : Int32))) <|
  (fX11_book G (xs (x3 + (1 : Int32)).toNatClampNeg) (xs (x3 + (2 : Int32)).toNatClampNeg) M).bind fun p =>
  n_chk (n_ib L (x3 + (1 : Int32))) <|
  n_chk (n_ib L (x3 + (2 : Int32))) <|
  (fX12_book (xs (x3 + (1 : Int32)).toNatClampNeg) (xs (x3 + (2 : Int32)).toNatClampNeg) p.2).bind fun q =>
  if p.1 = q.1 then kk x3 q.2 else none
set_option maxRecDepth 200000 in
theorem lc_book {l : Launch} {w : nW} {nm : String} {G : nG} {L : Nat} {xs : Nat → Int32} (N : Nat) (hG : n_GOK G) (hX : n_PX w L xs) (hT : n_PS w) (i : Int32) (M M1 M2 : nM) (v : Int32) (r : nR) (hb1 : n_ib L (i + (1 : Int32)) = true) (hb2 : n_ib L (i + (2 : Int32)) = true) (h1 : fX11_book G (xs (i + (1 : Int32)).toNatClampNeg) (xs (i + (2 : Int32)).toNatClampNeg) M = some (v, M1)) (h2 : fX12_book (xs (i + (1 : Int32)).toNatClampNeg) (xs (i + (2 : Int32)).toNatClampNeg) M1 = some (v, M2)) (h3 : n_Lw l w nm 1675 i (G, M2) r) : n_Lw l w nm 786 i (G, M) r :=
  n_seg (fin := fun r => r) (K := [(1675, fun lv st M => n_lS 0 lv 0 (n_lC 1 lv 1 (n_lC 107 lv 2 (n_lI lv 3 (fun x3 => n_pE st (n_one i M2 r x3 M))))))]) 31 (ia_book N hG hX hT) (n_kc (fun lv st M' r' k => by
    obtain ⟨e0, k0⟩ := n_lS_x k
    obtain ⟨e1, k1⟩ := n_lC_x k0
    obtain ⟨e2, k2⟩ := n_lC_x k1
    obtain ⟨x3, e3, k3⟩ := n_lI_x k2
    obtain ⟨rfl, k4⟩ := n_pE_x k3
    exact n_sub (n_qc e0 (n_qc e1 (n_qc e2 (n_qc e3 n_qe)))) (by obtain ⟨rfl, rfl, rfl⟩ := n_one_x k4; exact h3)) n_ke) (F := fl_book N G L xs (n_one i M2 r) i M) (by rfl) (by
    unfold fl_book
    simp only [hb1, hb2, n_chk, h1, h2, Option.bind_some, ↓reduceIte, n_one_at])
noncomputable abbrev al_goes (N : Nat) (G : nG) (L : Nat) (xs : Nat → Int32) : List (Nat × nO nR) := [(819, o_aload 1 820), (820, o_aloadS 0 821), (821, o_iload 3 822), (822, o_push (.int (1 : Int32)) 823), (823, o_iadd 824), (824, o_sald L xs 825), (825, o_aloadS 0 826), (826, o_iload 3 827), (827, o_push (.int (2 : Int32)) 828), (828, o_iadd 829), (829, o_sald L xs 830), (830, o_callVc 1 2 (hX11_goes N G) 833), (833, o_aload 2 834), (834, o_aloadS 0 835), (835, o_iload 3 836), (836, o_push (.int (1 : Int32)) 837), (837, o_iadd 838), (838, o_sald L xs 839), (839, o_aloadS 0 840), (840, o_iload 3 841), (841, o_push (.int (2 : Int32)) 842), (842, o_iadd 843), (843, o_sald L xs 844), (844, o_callVc 107 2 (hX12_goes N) 847), (847, oc_eq 1675 850), (850, o_push (.int (0 : Int32)) 851), (851, o_no)]
set_option maxRecDepth 200000 in
theorem ia_goes {l : Launch} {w : nW} {nm : String} {G : nG} {L : Nat} {xs : Nat → Int32} (N : Nat) (hG : n_GOK G) (hX : n_PX w L xs) (hT : n_PS w) : n_AllS l w 530 (n_mlaw nm) G (fun r => r) (al_goes N G L xs) :=
  n_c (s_aload_n (μ := n_mlaw nm) (pc := 819) (k := 1) dl_819) <|
  n_c (s_aloadS (μ := n_mlaw nm) (pc := 820) (k := 0) dl_820) <|
  n_c (s_iload_n (μ := n_mlaw nm) (pc := 821) (k := 3) dl_821) <|
  n_c (s_iconst (μ := n_mlaw nm) (pc := 822) (n := 1) dl_822 (by decide +kernel)) <|
  n_c (s_iadd (μ := n_mlaw nm) (pc := 823) dl_823) <|
  n_c (s_sald (μ := n_mlaw nm) (pc := 824) hX dl_824) <|
  n_c (s_aloadS (μ := n_mlaw nm) (pc := 825) (k := 0) dl_825) <|
  n_c (s_iload_n (μ := n_mlaw nm) (pc := 826) (k := 3) dl_826) <|
  n_c (s_iconst (μ := n_mlaw nm) (pc := 827) (n := 2) dl_827 (by decide +kernel)) <|
  n_c (s_iadd (μ := n_mlaw nm) (pc := 828) dl_828) <|
  n_c (s_sald (μ := n_mlaw nm) (pc := 829) hX dl_829) <|
  n_c (s_callVc (s_callV (μ := n_mlaw nm) (pc := 830) (csX11_goes N hG) (by decide) okX11_goes nok11 w_1104 w_1105 w_1103 dl_830) (gk1 hG)) <|
  n_c (s_aload_n (μ := n_mlaw nm) (pc := 833) (k := 2) dl_833) <|
  n_c (s_aloadS (μ := n_mlaw nm) (pc := 834) (k := 0) dl_834) <|
  n_c (s_iload_n (μ := n_mlaw nm) (pc := 835) (k := 3) dl_835) <|
  n_c (s_iconst (μ := n_mlaw nm) (pc := 836) (n := 1) dl_836 (by decide +kernel)) <|
  n_c (s_iadd (μ := n_mlaw nm) (pc := 837) dl_837) <|
  n_c (s_sald (μ := n_mlaw nm) (pc := 838) hX dl_838) <|
  n_c (s_aloadS (μ := n_mlaw nm) (pc := 839) (k := 0) dl_839) <|
  n_c (s_iload_n (μ := n_mlaw nm) (pc := 840) (k := 3) dl_840) <|
  n_c (s_iconst (μ := n_mlaw nm) (pc := 841) (n := 2) dl_841 (by decide +kernel)) <|
  n_c (s_iadd (μ := n_mlaw nm) (pc := 842) dl_842) <|
  n_c (s_sald (μ := n_mlaw nm) (pc := 843) hX dl_843) <|
  n_c (s_callVc (s_callV (μ := n_mlaw nm) (pc := 844) (csX12_goes N hG) (by decide) okX12_goes nok12 w_1972 w_1973 w_1971 dl_844) (gk107 hG)) <|
  n_c (s_icmp_eq (μ := n_mlaw nm) (pc := 847) (off := 828) dl_847 (by decide +kernel)) <|
  n_c (s_iconst (μ := n_mlaw nm) (pc := 850) (n := 0) dl_850 (by decide +kernel)) <|
  n_c (s_no) <|
  n_e
noncomputable def fl_goes (N : Nat) (G : nG) (L : Nat) (xs : Nat → Int32) (kk : Int32 → nM → Option nR) (x3 : Int32) (M : nM) : Option nR :=
  n_chk (n_ib L (x3 + (1 : Int32))) <|
  n_chk (n_ib L (x3 + (2 : Int32))) <|
  (fX11_goes N G (xs (x3 + (1 : Int32)).toNatClampNeg) (xs (x3 + (2 : Int32)).toNatClampNeg) M).bind fun p =>
  n_chk (n_ib L (x3 + (1 : Int32))) <|
  n_chk (n_ib L (x3 + (2 : Int32))) <|
  (fX12_goes N (xs (x3 + (1 : Int32)).toNatClampNeg) (xs (x3 + (2 : Int32)).toNatClampNeg) p.2).bind fun q =>
  if p.1 = q.1 then kk x3 q.2 else none
set_option maxRecDepth 200000 in
theorem lc_goes {l : Launch} {w : nW} {nm : String} {G : nG} {L : Nat} {xs : Nat → Int32} (N : Nat) (hG : n_GOK G) (hX : n_PX w L xs) (hT : n_PS w) (i : Int32) (M M1 M2 : nM) (v : Int32) (r : nR) (hb1 : n_ib L (i + (1 : Int32)) = true) (hb2 : n_ib L (i + (2 : Int32)) = true) (h1 : fX11_goes N G (xs (i + (1 : Int32)).toNatClampNeg) (xs (i + (2 : Int32)).toNatClampNeg) M = some (v, M1)) (h2 : fX12_goes N (xs (i + (1 : Int32)).toNatClampNeg) (xs (i + (2 : Int32)).toNatClampNeg) M1 = some (v, M2)) (h3 : n_Lw l w nm 1675 i (G, M2) r) : n_Lw l w nm 819 i (G, M) r :=
  n_seg (fin := fun r => r) (K := [(1675, fun lv st M => n_lS 0 lv 0 (n_lC 1 lv 1 (n_lC 107 lv 2 (n_lI lv 3 (fun x3 => n_pE st (n_one i M2 r x3 M))))))]) 31 (ia_goes N hG hX hT) (n_kc (fun lv st M' r' k => by
    obtain ⟨e0, k0⟩ := n_lS_x k
    obtain ⟨e1, k1⟩ := n_lC_x k0
    obtain ⟨e2, k2⟩ := n_lC_x k1
    obtain ⟨x3, e3, k3⟩ := n_lI_x k2
    obtain ⟨rfl, k4⟩ := n_pE_x k3
    exact n_sub (n_qc e0 (n_qc e1 (n_qc e2 (n_qc e3 n_qe)))) (by obtain ⟨rfl, rfl, rfl⟩ := n_one_x k4; exact h3)) n_ke) (F := fl_goes N G L xs (n_one i M2 r) i M) (by rfl) (by
    unfold fl_goes
    simp only [hb1, hb2, n_chk, h1, h2, Option.bind_some, ↓reduceIte, n_one_at])
noncomputable abbrev al_where (N : Nat) (G : nG) (L : Nat) (xs : Nat → Int32) : List (Nat × nO nR) := [(852, o_aload 1 853), (853, o_aloadS 0 854), (854, o_iload 3 855), (855, o_push (.int (1 : Int32)) 856), (856, o_iadd 857), (857, o_sald L xs 858), (858, o_aloadS 0 859), (859, o_iload 3 860), (860, o_push (.int (2 : Int32)) 861), (861, o_iadd 862), (862, o_sald L xs 863), (863, o_aloadS 0 864), (864, o_iload 3 865), (865, o_push (.int (3 : Int32)) 866), (866, o_iadd 867), (867, o_sald L xs 868), (868, o_callVc 1 3 (hX11_where N G) 871), (871, o_aload 2 872), (872, o_aloadS 0 873), (873, o_iload 3 874), (874, o_push (.int (1 : Int32)) 875), (875, o_iadd 876), (876, o_sald L xs 877), (877, o_aloadS 0 878), (878, o_iload 3 879), (879, o_push (.int (2 : Int32)) 880), (880, o_iadd 881), (881, o_sald L xs 882), (882, o_aloadS 0 883), (883, o_iload 3 884), (884, o_push (.int (3 : Int32)) 885), (885, o_iadd 886), (886, o_sald L xs 887), (887, o_callVc 107 3 (hX12_where N) 890), (890, oc_eq 1675 893), (893, o_push (.int (0 : Int32)) 894), (894, o_no)]
set_option maxRecDepth 200000 in
theorem ia_where {l : Launch} {w : nW} {nm : String} {G : nG} {L : Nat} {xs : Nat → Int32} (N : Nat) (hG : n_GOK G) (hX : n_PX w L xs) (hT : n_PS w) : n_AllS l w 530 (n_mlaw nm) G (fun r => r) (al_where N G L xs) :=
  n_c (s_aload_n (μ := n_mlaw nm) (pc := 852) (k := 1) dl_852) <|
  n_c (s_aloadS (μ := n_mlaw nm) (pc := 853) (k := 0) dl_853) <|
  n_c (s_iload_n (μ := n_mlaw nm) (pc := 854) (k := 3) dl_854) <|
  n_c (s_iconst (μ := n_mlaw nm) (pc := 855) (n := 1) dl_855 (by decide +kernel)) <|
  n_c (s_iadd (μ := n_mlaw nm) (pc := 856) dl_856) <|
  n_c (s_sald (μ := n_mlaw nm) (pc := 857) hX dl_857) <|
  n_c (s_aloadS (μ := n_mlaw nm) (pc := 858) (k := 0) dl_858) <|
  n_c (s_iload_n (μ := n_mlaw nm) (pc := 859) (k := 3) dl_859) <|
  n_c (s_iconst (μ := n_mlaw nm) (pc := 860) (n := 2) dl_860 (by decide +kernel)) <|
  n_c (s_iadd (μ := n_mlaw nm) (pc := 861) dl_861) <|
  n_c (s_sald (μ := n_mlaw nm) (pc := 862) hX dl_862) <|
  n_c (s_aloadS (μ := n_mlaw nm) (pc := 863) (k := 0) dl_863) <|
  n_c (s_iload_n (μ := n_mlaw nm) (pc := 864) (k := 3) dl_864) <|
  n_c (s_iconst (μ := n_mlaw nm) (pc := 865) (n := 3) dl_865 (by decide +kernel)) <|
  n_c (s_iadd (μ := n_mlaw nm) (pc := 866) dl_866) <|
  n_c (s_sald (μ := n_mlaw nm) (pc := 867) hX dl_867) <|
  n_c (s_callVc (s_callV (μ := n_mlaw nm) (pc := 868) (csX11_where N hG) (by decide) okX11_where nok11 w_1118 w_1119 w_1117 dl_868) (gk1 hG)) <|
  n_c (s_aload_n (μ := n_mlaw nm) (pc := 871) (k := 2) dl_871) <|
  n_c (s_aloadS (μ := n_mlaw nm) (pc := 872) (k := 0) dl_872) <|
  n_c (s_iload_n (μ := n_mlaw nm) (pc := 873) (k := 3) dl_873) <|
  n_c (s_iconst (μ := n_mlaw nm) (pc := 874) (n := 1) dl_874 (by decide +kernel)) <|
  n_c (s_iadd (μ := n_mlaw nm) (pc := 875) dl_875) <|
  n_c (s_sald (μ := n_mlaw nm) (pc := 876) hX dl_876) <|
  n_c (s_aloadS (μ := n_mlaw nm) (pc := 877) (k := 0) dl_877) <|
  n_c (s_iload_n (μ := n_mlaw nm) (pc := 878) (k := 3) dl_878) <|
  n_c (s_iconst (μ := n_mlaw nm) (pc := 879) (n := 2) dl_879 (by decide +kernel)) <|
  n_c (s_iadd (μ := n_mlaw nm) (pc := 880) dl_880) <|
  n_c (s_sald (μ := n_mlaw nm) (pc := 881) hX dl_881) <|
  n_c (s_aloadS (μ := n_mlaw nm) (pc := 882) (k := 0) dl_882) <|
  n_c (s_iload_n (μ := n_mlaw nm) (pc := 883) (k := 3) dl_883) <|
  n_c (s_iconst (μ := n_mlaw nm) (pc := 884) (n := 3) dl_884 (by decide +kernel)) <|
  n_c (s_iadd (μ := n_mlaw nm) (pc := 885) dl_885) <|
  n_c (s_sald (μ := n_mlaw nm) (pc := 886) hX dl_886) <|
  n_c (s_callVc (s_callV (μ := n_mlaw nm) (pc := 887) (csX12_where N hG) (by decide) okX12_where nok12 w_1988 w_1989 w_1987 dl_887) (gk107 hG)) <|
  n_c (s_icmp_eq (μ := n_mlaw nm) (pc := 890) (off := 785) dl_890 (by decide +kernel)) <|
  n_c (s_iconst (μ := n_mlaw nm) (pc := 893) (n := 0) dl_893 (by decide +kernel)) <|
  n_c (s_no) <|
  n_e
noncomputable def fl_where (N : Nat) (G : nG) (L : Nat) (xs : Nat → Int32) (kk : Int32 → nM → Option nR) (x3 : Int32) (M : nM) : Option nR :=
  n_chk (n_ib L (x3 + (1 : Int32))) <|
  n_chk (n_ib L (x3 + (2 : Int32))) <|
  n_chk (n_ib L (x3 + (3 : Int32))) <|
  (fX11_where N G (xs (x3 + (1 : Int32)).toNatClampNeg) (xs (x3 + (2 : Int32)).toNatClampNeg) (xs (x3 + (3 : Int32)).toNatClampNeg) M).bind fun p =>
  n_chk (n_ib L (x3 + (1 : Int32))) <|
  n_chk (n_ib L (x3 + (2 : Int32))) <|
  n_chk (n_ib L (x3 + (3 : Int32))) <|
  (fX12_where N (xs (x3 + (1 : Int32)).toNatClampNeg) (xs (x3 + (2 : Int32)).toNatClampNeg) (xs (x3 + (3 : Int32)).toNatClampNeg) p.2).bind fun q =>
  if p.1 = q.1 then kk x3 q.2 else none
set_option maxRecDepth 200000 in
theorem lc_where {l : Launch} {w : nW} {nm : String} {G : nG} {L : Nat} {xs : Nat → Int32} (N : Nat) (hG : n_GOK G) (hX : n_PX w L xs) (hT : n_PS w) (i : Int32) (M M1 M2 : nM) (v : Int32) (r : nR) (hb1 : n_ib L (i + (1 : Int32)) = true) (hb2 : n_ib L (i + (2 : Int32)) = true) (hb3 : n_ib L (i + (3 : Int32)) = true) (h1 : fX11_where N G (xs (i + (1 : Int32)).toNatClampNeg) (xs (i + (2 : Int32)).toNatClampNeg) (xs (i + (3 : Int32)).toNatClampNeg) M = some (v, M1)) (h2 : fX12_where N (xs (i + (1 : Int32)).toNatClampNeg) (xs (i + (2 : Int32)).toNatClampNeg) (xs (i + (3 : Int32)).toNatClampNeg) M1 = some (v, M2)) (h3 : n_Lw l w nm 1675 i (G, M2) r) : n_Lw l w nm 852 i (G, M) r :=
  n_seg (fin := fun r => r) (K := [(1675, fun lv st M => n_lS 0 lv 0 (n_lC 1 lv 1 (n_lC 107 lv 2 (n_lI lv 3 (fun x3 => n_pE st (n_one i M2 r x3 M))))))]) 41 (ia_where N hG hX hT) (n_kc (fun lv st M' r' k => by
    obtain ⟨e0, k0⟩ := n_lS_x k
    obtain ⟨e1, k1⟩ := n_lC_x k0
    obtain ⟨e2, k2⟩ := n_lC_x k1
    obtain ⟨x3, e3, k3⟩ := n_lI_x k2
    obtain ⟨rfl, k4⟩ := n_pE_x k3
    exact n_sub (n_qc e0 (n_qc e1 (n_qc e2 (n_qc e3 n_qe)))) (by obtain ⟨rfl, rfl, rfl⟩ := n_one_x k4; exact h3)) n_ke) (F := fl_where N G L xs (n_one i M2 r) i M) (by rfl) (by
    unfold fl_where
    simp only [hb1, hb2, hb3, n_chk, h1, h2, Option.bind_some, ↓reduceIte, n_one_at])
noncomputable abbrev al_brings (N : Nat) (G : nG) (L : Nat) (xs : Nat → Int32) : List (Nat × nO nR) := [(895, o_aload 1 896), (896, o_aloadS 0 897), (897, o_iload 3 898), (898, o_push (.int (1 : Int32)) 899), (899, o_iadd 900), (900, o_sald L xs 901), (901, o_aloadS 0 902), (902, o_iload 3 903), (903, o_push (.int (2 : Int32)) 904), (904, o_iadd 905), (905, o_sald L xs 906), (906, o_callVc 1 2 (hX11_brings N G) 909), (909, o_aload 2 910), (910, o_aloadS 0 911), (911, o_iload 3 912), (912, o_push (.int (1 : Int32)) 913), (913, o_iadd 914), (914, o_sald L xs 915), (915, o_aloadS 0 916), (916, o_iload 3 917), (917, o_push (.int (2 : Int32)) 918), (918, o_iadd 919), (919, o_sald L xs 920), (920, o_callVc 107 2 (hX12_brings N) 923), (923, oc_eq 1675 926), (926, o_push (.int (0 : Int32)) 927), (927, o_no)]
set_option maxRecDepth 200000 in
theorem ia_brings {l : Launch} {w : nW} {nm : String} {G : nG} {L : Nat} {xs : Nat → Int32} (N : Nat) (hG : n_GOK G) (hX : n_PX w L xs) (hT : n_PS w) : n_AllS l w 530 (n_mlaw nm) G (fun r => r) (al_brings N G L xs) :=
  n_c (s_aload_n (μ := n_mlaw nm) (pc := 895) (k := 1) dl_895) <|
  n_c (s_aloadS (μ := n_mlaw nm) (pc := 896) (k := 0) dl_896) <|
  n_c (s_iload_n (μ := n_mlaw nm) (pc := 897) (k := 3) dl_897) <|
  n_c (s_iconst (μ := n_mlaw nm) (pc := 898) (n := 1) dl_898 (by decide +kernel)) <|
  n_c (s_iadd (μ := n_mlaw nm) (pc := 899) dl_899) <|
  n_c (s_sald (μ := n_mlaw nm) (pc := 900) hX dl_900) <|
  n_c (s_aloadS (μ := n_mlaw nm) (pc := 901) (k := 0) dl_901) <|
  n_c (s_iload_n (μ := n_mlaw nm) (pc := 902) (k := 3) dl_902) <|
  n_c (s_iconst (μ := n_mlaw nm) (pc := 903) (n := 2) dl_903 (by decide +kernel)) <|
  n_c (s_iadd (μ := n_mlaw nm) (pc := 904) dl_904) <|
  n_c (s_sald (μ := n_mlaw nm) (pc := 905) hX dl_905) <|
  n_c (s_callVc (s_callV (μ := n_mlaw nm) (pc := 906) (csX11_brings N hG) (by decide) okX11_brings nok11 w_1122 w_1123 w_1121 dl_906) (gk1 hG)) <|
  n_c (s_aload_n (μ := n_mlaw nm) (pc := 909) (k := 2) dl_909) <|
  n_c (s_aloadS (μ := n_mlaw nm) (pc := 910) (k := 0) dl_910) <|
  n_c (s_iload_n (μ := n_mlaw nm) (pc := 911) (k := 3) dl_911) <|
  n_c (s_iconst (μ := n_mlaw nm) (pc := 912) (n := 1) dl_912 (by decide +kernel)) <|
  n_c (s_iadd (μ := n_mlaw nm) (pc := 913) dl_913) <|
  n_c (s_sald (μ := n_mlaw nm) (pc := 914) hX dl_914) <|
  n_c (s_aloadS (μ := n_mlaw nm) (pc := 915) (k := 0) dl_915) <|
  n_c (s_iload_n (μ := n_mlaw nm) (pc := 916) (k := 3) dl_916) <|
  n_c (s_iconst (μ := n_mlaw nm) (pc := 917) (n := 2) dl_917 (by decide +kernel)) <|
  n_c (s_iadd (μ := n_mlaw nm) (pc := 918) dl_918) <|
  n_c (s_sald (μ := n_mlaw nm) (pc := 919) hX dl_919) <|
  n_c (s_callVc (s_callV (μ := n_mlaw nm) (pc := 920) (csX12_brings N hG) (by decide) okX12_brings nok12 w_1992 w_1993 w_1991 dl_920) (gk107 hG)) <|
  n_c (s_icmp_eq (μ := n_mlaw nm) (pc := 923) (off := 752) dl_923 (by decide +kernel)) <|
  n_c (s_iconst (μ := n_mlaw nm) (pc := 926) (n := 0) dl_926 (by decide +kernel)) <|
  n_c (s_no) <|
  n_e
noncomputable def fl_brings (N : Nat) (G : nG) (L : Nat) (xs : Nat → Int32) (kk : Int32 → nM → Option nR) (x3 : Int32) (M : nM) : Option nR :=
  n_chk (n_ib L (x3 + (1 : Int32))) <|
  n_chk (n_ib L (x3 + (2 : Int32))) <|
  (fX11_brings N G (xs (x3 + (1 : Int32)).toNatClampNeg) (xs (x3 + (2 : Int32)).toNatClampNeg) M).bind fun p =>
  n_chk (n_ib L (x3 + (1 : Int32))) <|
  n_chk (n_ib L (x3 + (2 : Int32))) <|
  (fX12_brings N (xs (x3 + (1 : Int32)).toNatClampNeg) (xs (x3 + (2 : Int32)).toNatClampNeg) p.2).bind fun q =>
  if p.1 = q.1 then kk x3 q.2 else none
set_option maxRecDepth 200000 in
theorem lc_brings {l : Launch} {w : nW} {nm : String} {G : nG} {L : Nat} {xs : Nat → Int32} (N : Nat) (hG : n_GOK G) (hX : n_PX w L xs) (hT : n_PS w) (i : Int32) (M M1 M2 : nM) (v : Int32) (r : nR) (hb1 : n_ib L (i + (1 : Int32)) = true) (hb2 : n_ib L (i + (2 : Int32)) = true) (h1 : fX11_brings N G (xs (i + (1 : Int32)).toNatClampNeg) (xs (i + (2 : Int32)).toNatClampNeg) M = some (v, M1)) (h2 : fX12_brings N (xs (i + (1 : Int32)).toNatClampNeg) (xs (i + (2 : Int32)).toNatClampNeg) M1 = some (v, M2)) (h3 : n_Lw l w nm 1675 i (G, M2) r) : n_Lw l w nm 895 i (G, M) r :=
  n_seg (fin := fun r => r) (K := [(1675, fun lv st M => n_lS 0 lv 0 (n_lC 1 lv 1 (n_lC 107 lv 2 (n_lI lv 3 (fun x3 => n_pE st (n_one i M2 r x3 M))))))]) 31 (ia_brings N hG hX hT) (n_kc (fun lv st M' r' k => by
    obtain ⟨e0, k0⟩ := n_lS_x k
    obtain ⟨e1, k1⟩ := n_lC_x k0
    obtain ⟨e2, k2⟩ := n_lC_x k1
    obtain ⟨x3, e3, k3⟩ := n_lI_x k2
    obtain ⟨rfl, k4⟩ := n_pE_x k3
    exact n_sub (n_qc e0 (n_qc e1 (n_qc e2 (n_qc e3 n_qe)))) (by obtain ⟨rfl, rfl, rfl⟩ := n_one_x k4; exact h3)) n_ke) (F := fl_brings N G L xs (n_one i M2 r) i M) (by rfl) (by
    unfold fl_brings
    simp only [hb1, hb2, n_chk, h1, h2, Option.bind_some, ↓reduceIte, n_one_at])
noncomputable abbrev al_swap (N : Nat) (G : nG) (L : Nat) (xs : Nat → Int32) : List (Nat × nO nR) := [(928, o_aload 1 929), (929, o_aloadS 0 930), (930, o_iload 3 931), (931, o_push (.int (1 : Int32)) 932), (932, o_iadd 933), (933, o_sald L xs 934), (934, o_aloadS 0 935), (935, o_iload 3 936), (936, o_push (.int (2 : Int32)) 937), (937, o_iadd 938), (938, o_sald L xs 939), (939, o_callVc 1 2 (hX11_swap G) 942), (942, o_aload 2 943), (943, o_aloadS 0 944), (944, o_iload 3 945), (945, o_push (.int (1 : Int32)) 946), (946, o_iadd 947), (947, o_sald L xs 948), (948, o_aloadS 0 949), (949, o_iload 3 950), (950, o_push (.int (2 : Int32)) 951), (951, o_iadd 952), (952, o_sald L xs 953), (953, o_callVc 107 2 (hX12_swap) 956), (956, oc_eq 1675 959), (959, o_push (.int (0 : Int32)) 960), (960, o_no)]
set_option maxRecDepth 200000 in
theorem ia_swap {l : Launch} {w : nW} {nm : String} {G : nG} {L : Nat} {xs : Nat → Int32} (N : Nat) (hG : n_GOK G) (hX : n_PX w L xs) (hT : n_PS w) : n_AllS l w 530 (n_mlaw nm) G (fun r => r) (al_swap N G L xs) :=
  n_c (s_aload_n (μ := n_mlaw nm) (pc := 928) (k := 1) dl_928) <|
  n_c (s_aloadS (μ := n_mlaw nm) (pc := 929) (k := 0) dl_929) <|
  n_c (s_iload_n (μ := n_mlaw nm) (pc := 930) (k := 3) dl_930) <|
  n_c (s_iconst (μ := n_mlaw nm) (pc := 931) (n := 1) dl_931 (by decide +kernel)) <|
  n_c (s_iadd (μ := n_mlaw nm) (pc := 932) dl_932) <|
  n_c (s_sald (μ := n_mlaw nm) (pc := 933) hX dl_933) <|
  n_c (s_aloadS (μ := n_mlaw nm) (pc := 934) (k := 0) dl_934) <|
  n_c (s_iload_n (μ := n_mlaw nm) (pc := 935) (k := 3) dl_935) <|
  n_c (s_iconst (μ := n_mlaw nm) (pc := 936) (n := 2) dl_936 (by decide +kernel)) <|
  n_c (s_iadd (μ := n_mlaw nm) (pc := 937) dl_937) <|
  n_c (s_sald (μ := n_mlaw nm) (pc := 938) hX dl_938) <|
  n_c (s_callVc (s_callV (μ := n_mlaw nm) (pc := 939) (csX11_swap hG) (by decide) okX11_swap nok11 w_1126 w_1127 w_1125 dl_939) (gk1 hG)) <|
  n_c (s_aload_n (μ := n_mlaw nm) (pc := 942) (k := 2) dl_942) <|
  n_c (s_aloadS (μ := n_mlaw nm) (pc := 943) (k := 0) dl_943) <|
  n_c (s_iload_n (μ := n_mlaw nm) (pc := 944) (k := 3) dl_944) <|
  n_c (s_iconst (μ := n_mlaw nm) (pc := 945) (n := 1) dl_945 (by decide +kernel)) <|
  n_c (s_iadd (μ := n_mlaw nm) (pc := 946) dl_946) <|
  n_c (s_sald (μ := n_mlaw nm) (pc := 947) hX dl_947) <|
  n_c (s_aloadS (μ := n_mlaw nm) (pc := 948) (k := 0) dl_948) <|
  n_c (s_iload_n (μ := n_mlaw nm) (pc := 949) (k := 3) dl_949) <|
  n_c (s_iconst (μ := n_mlaw nm) (pc := 950) (n := 2) dl_950 (by decide +kernel)) <|
  n_c (s_iadd (μ := n_mlaw nm) (pc := 951) dl_951) <|
  n_c (s_sald (μ := n_mlaw nm) (pc := 952) hX dl_952) <|
  n_c (s_callVc (s_callV (μ := n_mlaw nm) (pc := 953) (csX12_swap hG) (by decide) okX12_swap nok12 w_1996 w_1997 w_1995 dl_953) (gk107 hG)) <|
  n_c (s_icmp_eq (μ := n_mlaw nm) (pc := 956) (off := 719) dl_956 (by decide +kernel)) <|
  n_c (s_iconst (μ := n_mlaw nm) (pc := 959) (n := 0) dl_959 (by decide +kernel)) <|
  n_c (s_no) <|
  n_e
noncomputable def fl_swap (N : Nat) (G : nG) (L : Nat) (xs : Nat → Int32) (kk : Int32 → nM → Option nR) (x3 : Int32) (M : nM) : Option nR :=
  n_chk (n_ib L (x3 + (1 : Int32))) <|
  n_chk (n_ib L (x3 + (2 : Int32))) <|
  (fX11_swap G (xs (x3 + (1 : Int32)).toNatClampNeg) (xs (x3 + (2 : Int32)).toNatClampNeg) M).bind fun p =>
  n_chk (n_ib L (x3 + (1 : Int32))) <|
  n_chk (n_ib L (x3 + (2 : Int32))) <|
  (fX12_swap (xs (x3 + (1 : Int32)).toNatClampNeg) (xs (x3 + (2 : Int32)).toNatClampNeg) p.2).bind fun q =>
  if p.1 = q.1 then kk x3 q.2 else none
set_option maxRecDepth 200000 in
theorem lc_swap {l : Launch} {w : nW} {nm : String} {G : nG} {L : Nat} {xs : Nat → Int32} (N : Nat) (hG : n_GOK G) (hX : n_PX w L xs) (hT : n_PS w) (i : Int32) (M M1 M2 : nM) (v : Int32) (r : nR) (hb1 : n_ib L (i + (1 : Int32)) = true) (hb2 : n_ib L (i + (2 : Int32)) = true) (h1 : fX11_swap G (xs (i + (1 : Int32)).toNatClampNeg) (xs (i + (2 : Int32)).toNatClampNeg) M = some (v, M1)) (h2 : fX12_swap (xs (i + (1 : Int32)).toNatClampNeg) (xs (i + (2 : Int32)).toNatClampNeg) M1 = some (v, M2)) (h3 : n_Lw l w nm 1675 i (G, M2) r) : n_Lw l w nm 928 i (G, M) r :=
  n_seg (fin := fun r => r) (K := [(1675, fun lv st M => n_lS 0 lv 0 (n_lC 1 lv 1 (n_lC 107 lv 2 (n_lI lv 3 (fun x3 => n_pE st (n_one i M2 r x3 M))))))]) 31 (ia_swap N hG hX hT) (n_kc (fun lv st M' r' k => by
    obtain ⟨e0, k0⟩ := n_lS_x k
    obtain ⟨e1, k1⟩ := n_lC_x k0
    obtain ⟨e2, k2⟩ := n_lC_x k1
    obtain ⟨x3, e3, k3⟩ := n_lI_x k2
    obtain ⟨rfl, k4⟩ := n_pE_x k3
    exact n_sub (n_qc e0 (n_qc e1 (n_qc e2 (n_qc e3 n_qe)))) (by obtain ⟨rfl, rfl, rfl⟩ := n_one_x k4; exact h3)) n_ke) (F := fl_swap N G L xs (n_one i M2 r) i M) (by rfl) (by
    unfold fl_swap
    simp only [hb1, hb2, n_chk, h1, h2, Option.bind_some, ↓reduceIte, n_one_at])
noncomputable abbrev al_under (N : Nat) (G : nG) (L : Nat) (xs : Nat → Int32) : List (Nat × nO nR) := [(961, o_aload 1 962), (962, o_aloadS 0 963), (963, o_iload 3 964), (964, o_push (.int (1 : Int32)) 965), (965, o_iadd 966), (966, o_sald L xs 967), (967, o_callVc 1 1 (hX11_under N G) 970), (970, o_aload 2 971), (971, o_aloadS 0 972), (972, o_iload 3 973), (973, o_push (.int (1 : Int32)) 974), (974, o_iadd 975), (975, o_sald L xs 976), (976, o_callVc 107 1 (hX12_under N) 979), (979, oc_eq 1675 982), (982, o_push (.int (0 : Int32)) 983), (983, o_no)]
set_option maxRecDepth 200000 in
theorem ia_under {l : Launch} {w : nW} {nm : String} {G : nG} {L : Nat} {xs : Nat → Int32} (N : Nat) (hG : n_GOK G) (hX : n_PX w L xs) (hT : n_PS w) : n_AllS l w 530 (n_mlaw nm) G (fun r => r) (al_under N G L xs) :=
  n_c (s_aload_n (μ := n_mlaw nm) (pc := 961) (k := 1) dl_961) <|
  n_c (s_aloadS (μ := n_mlaw nm) (pc := 962) (k := 0) dl_962) <|
  n_c (s_iload_n (μ := n_mlaw nm) (pc := 963) (k := 3) dl_963) <|
  n_c (s_iconst (μ := n_mlaw nm) (pc := 964) (n := 1) dl_964 (by decide +kernel)) <|
  n_c (s_iadd (μ := n_mlaw nm) (pc := 965) dl_965) <|
  n_c (s_sald (μ := n_mlaw nm) (pc := 966) hX dl_966) <|
  n_c (s_callVc (s_callV (μ := n_mlaw nm) (pc := 967) (csX11_under N hG) (by decide) okX11_under nok11 w_1132 w_1133 w_1131 dl_967) (gk1 hG)) <|
  n_c (s_aload_n (μ := n_mlaw nm) (pc := 970) (k := 2) dl_970) <|
  n_c (s_aloadS (μ := n_mlaw nm) (pc := 971) (k := 0) dl_971) <|
  n_c (s_iload_n (μ := n_mlaw nm) (pc := 972) (k := 3) dl_972) <|
  n_c (s_iconst (μ := n_mlaw nm) (pc := 973) (n := 1) dl_973 (by decide +kernel)) <|
  n_c (s_iadd (μ := n_mlaw nm) (pc := 974) dl_974) <|
  n_c (s_sald (μ := n_mlaw nm) (pc := 975) hX dl_975) <|
  n_c (s_callVc (s_callV (μ := n_mlaw nm) (pc := 976) (csX12_under N hG) (by decide) okX12_under nok12 w_2000 w_2001 w_1999 dl_976) (gk107 hG)) <|
  n_c (s_icmp_eq (μ := n_mlaw nm) (pc := 979) (off := 696) dl_979 (by decide +kernel)) <|
  n_c (s_iconst (μ := n_mlaw nm) (pc := 982) (n := 0) dl_982 (by decide +kernel)) <|
  n_c (s_no) <|
  n_e
noncomputable def fl_under (N : Nat) (G : nG) (L : Nat) (xs : Nat → Int32) (kk : Int32 → nM → Option nR) (x3 : Int32) (M : nM) : Option nR :=
  n_chk (n_ib L (x3 + (1 : Int32))) <|
  (fX11_under N G (xs (x3 + (1 : Int32)).toNatClampNeg) M).bind fun p =>
  n_chk (n_ib L (x3 + (1 : Int32))) <|
  (fX12_under N (xs (x3 + (1 : Int32)).toNatClampNeg) p.2).bind fun q =>
  if p.1 = q.1 then kk x3 q.2 else none
set_option maxRecDepth 200000 in
theorem lc_under {l : Launch} {w : nW} {nm : String} {G : nG} {L : Nat} {xs : Nat → Int32} (N : Nat) (hG : n_GOK G) (hX : n_PX w L xs) (hT : n_PS w) (i : Int32) (M M1 M2 : nM) (v : Int32) (r : nR) (hb1 : n_ib L (i + (1 : Int32)) = true) (h1 : fX11_under N G (xs (i + (1 : Int32)).toNatClampNeg) M = some (v, M1)) (h2 : fX12_under N (xs (i + (1 : Int32)).toNatClampNeg) M1 = some (v, M2)) (h3 : n_Lw l w nm 1675 i (G, M2) r) : n_Lw l w nm 961 i (G, M) r :=
  n_seg (fin := fun r => r) (K := [(1675, fun lv st M => n_lS 0 lv 0 (n_lC 1 lv 1 (n_lC 107 lv 2 (n_lI lv 3 (fun x3 => n_pE st (n_one i M2 r x3 M))))))]) 21 (ia_under N hG hX hT) (n_kc (fun lv st M' r' k => by
    obtain ⟨e0, k0⟩ := n_lS_x k
    obtain ⟨e1, k1⟩ := n_lC_x k0
    obtain ⟨e2, k2⟩ := n_lC_x k1
    obtain ⟨x3, e3, k3⟩ := n_lI_x k2
    obtain ⟨rfl, k4⟩ := n_pE_x k3
    exact n_sub (n_qc e0 (n_qc e1 (n_qc e2 (n_qc e3 n_qe)))) (by obtain ⟨rfl, rfl, rfl⟩ := n_one_x k4; exact h3)) n_ke) (F := fl_under N G L xs (n_one i M2 r) i M) (by rfl) (by
    unfold fl_under
    simp only [hb1, n_chk, h1, h2, Option.bind_some, ↓reduceIte, n_one_at])
noncomputable abbrev al_pick (N : Nat) (G : nG) (L : Nat) (xs : Nat → Int32) : List (Nat × nO nR) := [(984, o_aload 1 985), (985, o_aloadS 0 986), (986, o_iload 3 987), (987, o_push (.int (1 : Int32)) 988), (988, o_iadd 989), (989, o_sald L xs 990), (990, o_callVc 1 1 (hX11_pick G) 993), (993, o_aload 2 994), (994, o_aloadS 0 995), (995, o_iload 3 996), (996, o_push (.int (1 : Int32)) 997), (997, o_iadd 998), (998, o_sald L xs 999), (999, o_callVc 107 1 (hX12_pick) 1002), (1002, oc_eq 1675 1005), (1005, o_push (.int (0 : Int32)) 1006), (1006, o_no)]
set_option maxRecDepth 200000 in
theorem ia_pick {l : Launch} {w : nW} {nm : String} {G : nG} {L : Nat} {xs : Nat → Int32} (N : Nat) (hG : n_GOK G) (hX : n_PX w L xs) (hT : n_PS w) : n_AllS l w 530 (n_mlaw nm) G (fun r => r) (al_pick N G L xs) :=
  n_c (s_aload_n (μ := n_mlaw nm) (pc := 984) (k := 1) dl_984) <|
  n_c (s_aloadS (μ := n_mlaw nm) (pc := 985) (k := 0) dl_985) <|
  n_c (s_iload_n (μ := n_mlaw nm) (pc := 986) (k := 3) dl_986) <|
  n_c (s_iconst (μ := n_mlaw nm) (pc := 987) (n := 1) dl_987 (by decide +kernel)) <|
  n_c (s_iadd (μ := n_mlaw nm) (pc := 988) dl_988) <|
  n_c (s_sald (μ := n_mlaw nm) (pc := 989) hX dl_989) <|
  n_c (s_callVc (s_callV (μ := n_mlaw nm) (pc := 990) (csX11_pick hG) (by decide) okX11_pick nok11 w_1148 w_1149 w_1147 dl_990) (gk1 hG)) <|
  n_c (s_aload_n (μ := n_mlaw nm) (pc := 993) (k := 2) dl_993) <|
  n_c (s_aloadS (μ := n_mlaw nm) (pc := 994) (k := 0) dl_994) <|
  n_c (s_iload_n (μ := n_mlaw nm) (pc := 995) (k := 3) dl_995) <|
  n_c (s_iconst (μ := n_mlaw nm) (pc := 996) (n := 1) dl_996 (by decide +kernel)) <|
  n_c (s_iadd (μ := n_mlaw nm) (pc := 997) dl_997) <|
  n_c (s_sald (μ := n_mlaw nm) (pc := 998) hX dl_998) <|
  n_c (s_callVc (s_callV (μ := n_mlaw nm) (pc := 999) (csX12_pick hG) (by decide) okX12_pick nok12 w_2016 w_2017 w_2015 dl_999) (gk107 hG)) <|
  n_c (s_icmp_eq (μ := n_mlaw nm) (pc := 1002) (off := 673) dl_1002 (by decide +kernel)) <|
  n_c (s_iconst (μ := n_mlaw nm) (pc := 1005) (n := 0) dl_1005 (by decide +kernel)) <|
  n_c (s_no) <|
  n_e
noncomputable def fl_pick (N : Nat) (G : nG) (L : Nat) (xs : Nat → Int32) (kk : Int32 → nM → Option nR) (x3 : Int32) (M : nM) : Option nR :=
  n_chk (n_ib L (x3 + (1 : Int32))) <|
  (fX11_pick G (xs (x3 + (1 : Int32)).toNatClampNeg) M).bind fun p =>
  n_chk (n_ib L (x3 + (1 : Int32))) <|
  (fX12_pick (xs (x3 + (1 : Int32)).toNatClampNeg) p.2).bind fun q =>
  if p.1 = q.1 then kk x3 q.2 else none
set_option maxRecDepth 200000 in
theorem lc_pick {l : Launch} {w : nW} {nm : String} {G : nG} {L : Nat} {xs : Nat → Int32} (N : Nat) (hG : n_GOK G) (hX : n_PX w L xs) (hT : n_PS w) (i : Int32) (M M1 M2 : nM) (v : Int32) (r : nR) (hb1 : n_ib L (i + (1 : Int32)) = true) (h1 : fX11_pick G (xs (i + (1 : Int32)).toNatClampNeg) M = some (v, M1)) (h2 : fX12_pick (xs (i + (1 : Int32)).toNatClampNeg) M1 = some (v, M2)) (h3 : n_Lw l w nm 1675 i (G, M2) r) : n_Lw l w nm 984 i (G, M) r :=
  n_seg (fin := fun r => r) (K := [(1675, fun lv st M => n_lS 0 lv 0 (n_lC 1 lv 1 (n_lC 107 lv 2 (n_lI lv 3 (fun x3 => n_pE st (n_one i M2 r x3 M))))))]) 21 (ia_pick N hG hX hT) (n_kc (fun lv st M' r' k => by
    obtain ⟨e0, k0⟩ := n_lS_x k
    obtain ⟨e1, k1⟩ := n_lC_x k0
    obtain ⟨e2, k2⟩ := n_lC_x k1
    obtain ⟨x3, e3, k3⟩ := n_lI_x k2
    obtain ⟨rfl, k4⟩ := n_pE_x k3
    exact n_sub (n_qc e0 (n_qc e1 (n_qc e2 (n_qc e3 n_qe)))) (by obtain ⟨rfl, rfl, rfl⟩ := n_one_x k4; exact h3)) n_ke) (F := fl_pick N G L xs (n_one i M2 r) i M) (by rfl) (by
    unfold fl_pick
    simp only [hb1, n_chk, h1, h2, Option.bind_some, ↓reduceIte, n_one_at])
noncomputable abbrev al_card (N : Nat) (G : nG) (L : Nat) (xs : Nat → Int32) : List (Nat × nO nR) := [(1007, o_aload 1 1008), (1008, o_aloadS 0 1009), (1009, o_iload 3 1010), (1010, o_push (.int (1 : Int32)) 1011), (1011, o_iadd 1012), (1012, o_sald L xs 1013), (1013, o_aloadS 0 1014), (1014, o_iload 3 1015), (1015, o_push (.int (2 : Int32)) 1016), (1016, o_iadd 1017), (1017, o_sald L xs 1018), (1018, o_callVc 1 2 (hX11_card N G) 1021), (1021, o_aload 2 1022), (1022, o_aloadS 0 1023), (1023, o_iload 3 1024), (1024, o_push (.int (1 : Int32)) 1025), (1025, o_iadd 1026), (1026, o_sald L xs 1027), (1027, o_aloadS 0 1028), (1028, o_iload 3 1029), (1029, o_push (.int (2 : Int32)) 1030), (1030, o_iadd 1031), (1031, o_sald L xs 1032), (1032, o_callVc 107 2 (hX12_card N) 1035), (1035, oc_eq 1675 1038), (1038, o_push (.int (0 : Int32)) 1039), (1039, o_no)]
set_option maxRecDepth 200000 in
theorem ia_card {l : Launch} {w : nW} {nm : String} {G : nG} {L : Nat} {xs : Nat → Int32} (N : Nat) (hG : n_GOK G) (hX : n_PX w L xs) (hT : n_PS w) : n_AllS l w 530 (n_mlaw nm) G (fun r => r) (al_card N G L xs) :=
  n_c (s_aload_n (μ := n_mlaw nm) (pc := 1007) (k := 1) dl_1007) <|
  n_c (s_aloadS (μ := n_mlaw nm) (pc := 1008) (k := 0) dl_1008) <|
  n_c (s_iload_n (μ := n_mlaw nm) (pc := 1009) (k := 3) dl_1009) <|
  n_c (s_iconst (μ := n_mlaw nm) (pc := 1010) (n := 1) dl_1010 (by decide +kernel)) <|
  n_c (s_iadd (μ := n_mlaw nm) (pc := 1011) dl_1011) <|
  n_c (s_sald (μ := n_mlaw nm) (pc := 1012) hX dl_1012) <|
  n_c (s_aloadS (μ := n_mlaw nm) (pc := 1013) (k := 0) dl_1013) <|
  n_c (s_iload_n (μ := n_mlaw nm) (pc := 1014) (k := 3) dl_1014) <|
  n_c (s_iconst (μ := n_mlaw nm) (pc := 1015) (n := 2) dl_1015 (by decide +kernel)) <|
  n_c (s_iadd (μ := n_mlaw nm) (pc := 1016) dl_1016) <|
  n_c (s_sald (μ := n_mlaw nm) (pc := 1017) hX dl_1017) <|
  n_c (s_callVc (s_callV (μ := n_mlaw nm) (pc := 1018) (csX11_card N hG) (by decide) okX11_card nok11 w_1152 w_1153 w_1151 dl_1018) (gk1 hG)) <|
  n_c (s_aload_n (μ := n_mlaw nm) (pc := 1021) (k := 2) dl_1021) <|
  n_c (s_aloadS (μ := n_mlaw nm) (pc := 1022) (k := 0) dl_1022) <|
  n_c (s_iload_n (μ := n_mlaw nm) (pc := 1023) (k := 3) dl_1023) <|
  n_c (s_iconst (μ := n_mlaw nm) (pc := 1024) (n := 1) dl_1024 (by decide +kernel)) <|
  n_c (s_iadd (μ := n_mlaw nm) (pc := 1025) dl_1025) <|
  n_c (s_sald (μ := n_mlaw nm) (pc := 1026) hX dl_1026) <|
  n_c (s_aloadS (μ := n_mlaw nm) (pc := 1027) (k := 0) dl_1027) <|
  n_c (s_iload_n (μ := n_mlaw nm) (pc := 1028) (k := 3) dl_1028) <|
  n_c (s_iconst (μ := n_mlaw nm) (pc := 1029) (n := 2) dl_1029 (by decide +kernel)) <|
  n_c (s_iadd (μ := n_mlaw nm) (pc := 1030) dl_1030) <|
  n_c (s_sald (μ := n_mlaw nm) (pc := 1031) hX dl_1031) <|
  n_c (s_callVc (s_callV (μ := n_mlaw nm) (pc := 1032) (csX12_card N hG) (by decide) okX12_card nok12 w_2020 w_2021 w_2019 dl_1032) (gk107 hG)) <|
  n_c (s_icmp_eq (μ := n_mlaw nm) (pc := 1035) (off := 640) dl_1035 (by decide +kernel)) <|
  n_c (s_iconst (μ := n_mlaw nm) (pc := 1038) (n := 0) dl_1038 (by decide +kernel)) <|
  n_c (s_no) <|
  n_e
noncomputable def fl_card (N : Nat) (G : nG) (L : Nat) (xs : Nat → Int32) (kk : Int32 → nM → Option nR) (x3 : Int32) (M : nM) : Option nR :=
  n_chk (n_ib L (x3 + (1 : Int32))) <|
  n_chk (n_ib L (x3 + (2 : Int32))) <|
  (fX11_card N G (xs (x3 + (1 : Int32)).toNatClampNeg) (xs (x3 + (2 : Int32)).toNatClampNeg) M).bind fun p =>
  n_chk (n_ib L (x3 + (1 : Int32))) <|
  n_chk (n_ib L (x3 + (2 : Int32))) <|
  (fX12_card N (xs (x3 + (1 : Int32)).toNatClampNeg) (xs (x3 + (2 : Int32)).toNatClampNeg) p.2).bind fun q =>
  if p.1 = q.1 then kk x3 q.2 else none
set_option maxRecDepth 200000 in
theorem lc_card {l : Launch} {w : nW} {nm : String} {G : nG} {L : Nat} {xs : Nat → Int32} (N : Nat) (hG : n_GOK G) (hX : n_PX w L xs) (hT : n_PS w) (i : Int32) (M M1 M2 : nM) (v : Int32) (r : nR) (hb1 : n_ib L (i + (1 : Int32)) = true) (hb2 : n_ib L (i + (2 : Int32)) = true) (h1 : fX11_card N G (xs (i + (1 : Int32)).toNatClampNeg) (xs (i + (2 : Int32)).toNatClampNeg) M = some (v, M1)) (h2 : fX12_card N (xs (i + (1 : Int32)).toNatClampNeg) (xs (i + (2 : Int32)).toNatClampNeg) M1 = some (v, M2)) (h3 : n_Lw l w nm 1675 i (G, M2) r) : n_Lw l w nm 1007 i (G, M) r :=
  n_seg (fin := fun r => r) (K := [(1675, fun lv st M => n_lS 0 lv 0 (n_lC 1 lv 1 (n_lC 107 lv 2 (n_lI lv 3 (fun x3 => n_pE st (n_one i M2 r x3 M))))))]) 31 (ia_card N hG hX hT) (n_kc (fun lv st M' r' k => by
    obtain ⟨e0, k0⟩ := n_lS_x k
    obtain ⟨e1, k1⟩ := n_lC_x k0
    obtain ⟨e2, k2⟩ := n_lC_x k1
    obtain ⟨x3, e3, k3⟩ := n_lI_x k2
    obtain ⟨rfl, k4⟩ := n_pE_x k3
    exact n_sub (n_qc e0 (n_qc e1 (n_qc e2 (n_qc e3 n_qe)))) (by obtain ⟨rfl, rfl, rfl⟩ := n_one_x k4; exact h3)) n_ke) (F := fl_card N G L xs (n_one i M2 r) i M) (by rfl) (by
    unfold fl_card
    simp only [hb1, hb2, n_chk, h1, h2, Option.bind_some, ↓reduceIte, n_one_at])
noncomputable abbrev al_box (N : Nat) (G : nG) (L : Nat) (xs : Nat → Int32) : List (Nat × nO nR) := [(1040, o_aload 1 1041), (1041, o_aloadS 0 1042), (1042, o_iload 3 1043), (1043, o_push (.int (1 : Int32)) 1044), (1044, o_iadd 1045), (1045, o_sald L xs 1046), (1046, o_aloadS 0 1047), (1047, o_iload 3 1048), (1048, o_push (.int (2 : Int32)) 1049), (1049, o_iadd 1050), (1050, o_sald L xs 1051), (1051, o_callVc 1 2 (hX11_box G) 1054), (1054, o_aload 2 1055), (1055, o_aloadS 0 1056), (1056, o_iload 3 1057), (1057, o_push (.int (1 : Int32)) 1058), (1058, o_iadd 1059), (1059, o_sald L xs 1060), (1060, o_aloadS 0 1061), (1061, o_iload 3 1062), (1062, o_push (.int (2 : Int32)) 1063), (1063, o_iadd 1064), (1064, o_sald L xs 1065), (1065, o_callVc 107 2 (hX12_box) 1068), (1068, oc_eq 1675 1071), (1071, o_push (.int (0 : Int32)) 1072), (1072, o_no)]
set_option maxRecDepth 200000 in
theorem ia_box {l : Launch} {w : nW} {nm : String} {G : nG} {L : Nat} {xs : Nat → Int32} (N : Nat) (hG : n_GOK G) (hX : n_PX w L xs) (hT : n_PS w) : n_AllS l w 530 (n_mlaw nm) G (fun r => r) (al_box N G L xs) :=
  n_c (s_aload_n (μ := n_mlaw nm) (pc := 1040) (k := 1) dl_1040) <|
  n_c (s_aloadS (μ := n_mlaw nm) (pc := 1041) (k := 0) dl_1041) <|
  n_c (s_iload_n (μ := n_mlaw nm) (pc := 1042) (k := 3) dl_1042) <|
  n_c (s_iconst (μ := n_mlaw nm) (pc := 1043) (n := 1) dl_1043 (by decide +kernel)) <|
  n_c (s_iadd (μ := n_mlaw nm) (pc := 1044) dl_1044) <|
  n_c (s_sald (μ := n_mlaw nm) (pc := 1045) hX dl_1045) <|
  n_c (s_aloadS (μ := n_mlaw nm) (pc := 1046) (k := 0) dl_1046) <|
  n_c (s_iload_n (μ := n_mlaw nm) (pc := 1047) (k := 3) dl_1047) <|
  n_c (s_iconst (μ := n_mlaw nm) (pc := 1048) (n := 2) dl_1048 (by decide +kernel)) <|
  n_c (s_iadd (μ := n_mlaw nm) (pc := 1049) dl_1049) <|
  n_c (s_sald (μ := n_mlaw nm) (pc := 1050) hX dl_1050) <|
  n_c (s_callVc (s_callV (μ := n_mlaw nm) (pc := 1051) (csX11_box hG) (by decide) okX11_box nok11 w_1167 w_1168 w_1166 dl_1051) (gk1 hG)) <|
  n_c (s_aload_n (μ := n_mlaw nm) (pc := 1054) (k := 2) dl_1054) <|
  n_c (s_aloadS (μ := n_mlaw nm) (pc := 1055) (k := 0) dl_1055) <|
  n_c (s_iload_n (μ := n_mlaw nm) (pc := 1056) (k := 3) dl_1056) <|
  n_c (s_iconst (μ := n_mlaw nm) (pc := 1057) (n := 1) dl_1057 (by decide +kernel)) <|
  n_c (s_iadd (μ := n_mlaw nm) (pc := 1058) dl_1058) <|
  n_c (s_sald (μ := n_mlaw nm) (pc := 1059) hX dl_1059) <|
  n_c (s_aloadS (μ := n_mlaw nm) (pc := 1060) (k := 0) dl_1060) <|
  n_c (s_iload_n (μ := n_mlaw nm) (pc := 1061) (k := 3) dl_1061) <|
  n_c (s_iconst (μ := n_mlaw nm) (pc := 1062) (n := 2) dl_1062 (by decide +kernel)) <|
  n_c (s_iadd (μ := n_mlaw nm) (pc := 1063) dl_1063) <|
  n_c (s_sald (μ := n_mlaw nm) (pc := 1064) hX dl_1064) <|
  n_c (s_callVc (s_callV (μ := n_mlaw nm) (pc := 1065) (csX12_box hG) (by decide) okX12_box nok12 w_2032 w_2033 w_2031 dl_1065) (gk107 hG)) <|
  n_c (s_icmp_eq (μ := n_mlaw nm) (pc := 1068) (off := 607) dl_1068 (by decide +kernel)) <|
  n_c (s_iconst (μ := n_mlaw nm) (pc := 1071) (n := 0) dl_1071 (by decide +kernel)) <|
  n_c (s_no) <|
  n_e
noncomputable def fl_box (N : Nat) (G : nG) (L : Nat) (xs : Nat → Int32) (kk : Int32 → nM → Option nR) (x3 : Int32) (M : nM) : Option nR :=
  n_chk (n_ib L (x3 + (1 : Int32))) <|
  n_chk (n_ib L (x3 + (2 : Int32))) <|
  (fX11_box G (xs (x3 + (1 : Int32)).toNatClampNeg) (xs (x3 + (2 : Int32)).toNatClampNeg) M).bind fun p =>
  n_chk (n_ib L (x3 + (1 : Int32))) <|
  n_chk (n_ib L (x3 + (2 : Int32))) <|
  (fX12_box (xs (x3 + (1 : Int32)).toNatClampNeg) (xs (x3 + (2 : Int32)).toNatClampNeg) p.2).bind fun q =>
  if p.1 = q.1 then kk x3 q.2 else none
set_option maxRecDepth 200000 in
theorem lc_box {l : Launch} {w : nW} {nm : String} {G : nG} {L : Nat} {xs : Nat → Int32} (N : Nat) (hG : n_GOK G) (hX : n_PX w L xs) (hT : n_PS w) (i : Int32) (M M1 M2 : nM) (v : Int32) (r : nR) (hb1 : n_ib L (i + (1 : Int32)) = true) (hb2 : n_ib L (i + (2 : Int32)) = true) (h1 : fX11_box G (xs (i + (1 : Int32)).toNatClampNeg) (xs (i + (2 : Int32)).toNatClampNeg) M = some (v, M1)) (h2 : fX12_box (xs (i + (1 : Int32)).toNatClampNeg) (xs (i + (2 : Int32)).toNatClampNeg) M1 = some (v, M2)) (h3 : n_Lw l w nm 1675 i (G, M2) r) : n_Lw l w nm 1040 i (G, M) r :=
  n_seg (fin := fun r => r) (K := [(1675, fun lv st M => n_lS 0 lv 0 (n_lC 1 lv 1 (n_lC 107 lv 2 (n_lI lv 3 (fun x3 => n_pE st (n_one i M2 r x3 M))))))]) 31 (ia_box N hG hX hT) (n_kc (fun lv st M' r' k => by
    obtain ⟨e0, k0⟩ := n_lS_x k
    obtain ⟨e1, k1⟩ := n_lC_x k0
    obtain ⟨e2, k2⟩ := n_lC_x k1
    obtain ⟨x3, e3, k3⟩ := n_lI_x k2
    obtain ⟨rfl, k4⟩ := n_pE_x k3
    exact n_sub (n_qc e0 (n_qc e1 (n_qc e2 (n_qc e3 n_qe)))) (by obtain ⟨rfl, rfl, rfl⟩ := n_one_x k4; exact h3)) n_ke) (F := fl_box N G L xs (n_one i M2 r) i M) (by rfl) (by
    unfold fl_box
    simp only [hb1, hb2, n_chk, h1, h2, Option.bind_some, ↓reduceIte, n_one_at])
noncomputable abbrev al_boxes (N : Nat) (G : nG) (L : Nat) (xs : Nat → Int32) : List (Nat × nO nR) := [(1073, o_aload 1 1074), (1074, o_aloadS 0 1075), (1075, o_iload 3 1076), (1076, o_push (.int (1 : Int32)) 1077), (1077, o_iadd 1078), (1078, o_sald L xs 1079), (1079, o_callVc 1 1 (hX11_boxes N G) 1082), (1082, o_aload 2 1083), (1083, o_aloadS 0 1084), (1084, o_iload 3 1085), (1085, o_push (.int (1 : Int32)) 1086), (1086, o_iadd 1087), (1087, o_sald L xs 1088), (1088, o_callVc 107 1 (hX12_boxes N) 1091), (1091, oc_eq 1675 1094), (1094, o_push (.int (0 : Int32)) 1095), (1095, o_no)]
set_option maxRecDepth 200000 in
theorem ia_boxes {l : Launch} {w : nW} {nm : String} {G : nG} {L : Nat} {xs : Nat → Int32} (N : Nat) (hG : n_GOK G) (hX : n_PX w L xs) (hT : n_PS w) : n_AllS l w 530 (n_mlaw nm) G (fun r => r) (al_boxes N G L xs) :=
  n_c (s_aload_n (μ := n_mlaw nm) (pc := 1073) (k := 1) dl_1073) <|
  n_c (s_aloadS (μ := n_mlaw nm) (pc := 1074) (k := 0) dl_1074) <|
  n_c (s_iload_n (μ := n_mlaw nm) (pc := 1075) (k := 3) dl_1075) <|
  n_c (s_iconst (μ := n_mlaw nm) (pc := 1076) (n := 1) dl_1076 (by decide +kernel)) <|
  n_c (s_iadd (μ := n_mlaw nm) (pc := 1077) dl_1077) <|
  n_c (s_sald (μ := n_mlaw nm) (pc := 1078) hX dl_1078) <|
  n_c (s_callVc (s_callV (μ := n_mlaw nm) (pc := 1079) (csX11_boxes N hG) (by decide) okX11_boxes nok11 w_1173 w_1174 w_1172 dl_1079) (gk1 hG)) <|
  n_c (s_aload_n (μ := n_mlaw nm) (pc := 1082) (k := 2) dl_1082) <|
  n_c (s_aloadS (μ := n_mlaw nm) (pc := 1083) (k := 0) dl_1083) <|
  n_c (s_iload_n (μ := n_mlaw nm) (pc := 1084) (k := 3) dl_1084) <|
  n_c (s_iconst (μ := n_mlaw nm) (pc := 1085) (n := 1) dl_1085 (by decide +kernel)) <|
  n_c (s_iadd (μ := n_mlaw nm) (pc := 1086) dl_1086) <|
  n_c (s_sald (μ := n_mlaw nm) (pc := 1087) hX dl_1087) <|
  n_c (s_callVc (s_callV (μ := n_mlaw nm) (pc := 1088) (csX12_boxes N hG) (by decide) okX12_boxes nok12 w_2044 w_2045 w_2043 dl_1088) (gk107 hG)) <|
  n_c (s_icmp_eq (μ := n_mlaw nm) (pc := 1091) (off := 584) dl_1091 (by decide +kernel)) <|
  n_c (s_iconst (μ := n_mlaw nm) (pc := 1094) (n := 0) dl_1094 (by decide +kernel)) <|
  n_c (s_no) <|
  n_e
noncomputable def fl_boxes (N : Nat) (G : nG) (L : Nat) (xs : Nat → Int32) (kk : Int32 → nM → Option nR) (x3 : Int32) (M : nM) : Option nR :=
  n_chk (n_ib L (x3 + (1 : Int32))) <|
  (fX11_boxes N G (xs (x3 + (1 : Int32)).toNatClampNeg) M).bind fun p =>
  n_chk (n_ib L (x3 + (1 : Int32))) <|
  (fX12_boxes N (xs (x3 + (1 : Int32)).toNatClampNeg) p.2).bind fun q =>
  if p.1 = q.1 then kk x3 q.2 else none
set_option maxRecDepth 200000 in
theorem lc_boxes {l : Launch} {w : nW} {nm : String} {G : nG} {L : Nat} {xs : Nat → Int32} (N : Nat) (hG : n_GOK G) (hX : n_PX w L xs) (hT : n_PS w) (i : Int32) (M M1 M2 : nM) (v : Int32) (r : nR) (hb1 : n_ib L (i + (1 : Int32)) = true) (h1 : fX11_boxes N G (xs (i + (1 : Int32)).toNatClampNeg) M = some (v, M1)) (h2 : fX12_boxes N (xs (i + (1 : Int32)).toNatClampNeg) M1 = some (v, M2)) (h3 : n_Lw l w nm 1675 i (G, M2) r) : n_Lw l w nm 1073 i (G, M) r :=
  n_seg (fin := fun r => r) (K := [(1675, fun lv st M => n_lS 0 lv 0 (n_lC 1 lv 1 (n_lC 107 lv 2 (n_lI lv 3 (fun x3 => n_pE st (n_one i M2 r x3 M))))))]) 21 (ia_boxes N hG hX hT) (n_kc (fun lv st M' r' k => by
    obtain ⟨e0, k0⟩ := n_lS_x k
    obtain ⟨e1, k1⟩ := n_lC_x k0
    obtain ⟨e2, k2⟩ := n_lC_x k1
    obtain ⟨x3, e3, k3⟩ := n_lI_x k2
    obtain ⟨rfl, k4⟩ := n_pE_x k3
    exact n_sub (n_qc e0 (n_qc e1 (n_qc e2 (n_qc e3 n_qe)))) (by obtain ⟨rfl, rfl, rfl⟩ := n_one_x k4; exact h3)) n_ke) (F := fl_boxes N G L xs (n_one i M2 r) i M) (by rfl) (by
    unfold fl_boxes
    simp only [hb1, n_chk, h1, h2, Option.bind_some, ↓reduceIte, n_one_at])
noncomputable abbrev al_key (N : Nat) (G : nG) (L : Nat) (xs : Nat → Int32) : List (Nat × nO nR) := [(1096, o_aload 1 1097), (1097, o_aloadS 0 1098), (1098, o_iload 3 1099), (1099, o_push (.int (1 : Int32)) 1100), (1100, o_iadd 1101), (1101, o_sald L xs 1102), (1102, o_aloadS 0 1103), (1103, o_iload 3 1104), (1104, o_push (.int (2 : Int32)) 1105), (1105, o_iadd 1106), (1106, o_sald L xs 1107), (1107, o_callVc 1 2 (hX11_key G) 1110), (1110, o_aload 2 1111), (1111, o_aloadS 0 1112), (1112, o_iload 3 1113), (1113, o_push (.int (1 : Int32)) 1114), (1114, o_iadd 1115), (1115, o_sald L xs 1116), (1116, o_aloadS 0 1117), (1117, o_iload 3 1118), (1118, o_push (.int (2 : Int32)) 1119), (1119, o_iadd 1120), (1120, o_sald L xs 1121), (1121, o_callVc 107 2 (hX12_key N) 1124), (1124, oc_eq 1675 1127), (1127, o_push (.int (0 : Int32)) 1128), (1128, o_no)]
set_option maxRecDepth 200000 in
theorem ia_key {l : Launch} {w : nW} {nm : String} {G : nG} {L : Nat} {xs : Nat → Int32} (N : Nat) (hG : n_GOK G) (hX : n_PX w L xs) (hT : n_PS w) : n_AllS l w 530 (n_mlaw nm) G (fun r => r) (al_key N G L xs) :=
  n_c (s_aload_n (μ := n_mlaw nm) (pc := 1096) (k := 1) dl_1096) <|
  n_c (s_aloadS (μ := n_mlaw nm) (pc := 1097) (k := 0) dl_1097) <|
  n_c (s_iload_n (μ := n_mlaw nm) (pc := 1098) (k := 3) dl_1098) <|
  n_c (s_iconst (μ := n_mlaw nm) (pc := 1099) (n := 1) dl_1099 (by decide +kernel)) <|
  n_c (s_iadd (μ := n_mlaw nm) (pc := 1100) dl_1100) <|
  n_c (s_sald (μ := n_mlaw nm) (pc := 1101) hX dl_1101) <|
  n_c (s_aloadS (μ := n_mlaw nm) (pc := 1102) (k := 0) dl_1102) <|
  n_c (s_iload_n (μ := n_mlaw nm) (pc := 1103) (k := 3) dl_1103) <|
  n_c (s_iconst (μ := n_mlaw nm) (pc := 1104) (n := 2) dl_1104 (by decide +kernel)) <|
  n_c (s_iadd (μ := n_mlaw nm) (pc := 1105) dl_1105) <|
  n_c (s_sald (μ := n_mlaw nm) (pc := 1106) hX dl_1106) <|
  n_c (s_callVc (s_callV (μ := n_mlaw nm) (pc := 1107) (csX11_key hG) (by decide) okX11_key nok11 w_1187 w_1188 w_1186 dl_1107) (gk1 hG)) <|
  n_c (s_aload_n (μ := n_mlaw nm) (pc := 1110) (k := 2) dl_1110) <|
  n_c (s_aloadS (μ := n_mlaw nm) (pc := 1111) (k := 0) dl_1111) <|
  n_c (s_iload_n (μ := n_mlaw nm) (pc := 1112) (k := 3) dl_1112) <|
  n_c (s_iconst (μ := n_mlaw nm) (pc := 1113) (n := 1) dl_1113 (by decide +kernel)) <|
  n_c (s_iadd (μ := n_mlaw nm) (pc := 1114) dl_1114) <|
  n_c (s_sald (μ := n_mlaw nm) (pc := 1115) hX dl_1115) <|
  n_c (s_aloadS (μ := n_mlaw nm) (pc := 1116) (k := 0) dl_1116) <|
  n_c (s_iload_n (μ := n_mlaw nm) (pc := 1117) (k := 3) dl_1117) <|
  n_c (s_iconst (μ := n_mlaw nm) (pc := 1118) (n := 2) dl_1118 (by decide +kernel)) <|
  n_c (s_iadd (μ := n_mlaw nm) (pc := 1119) dl_1119) <|
  n_c (s_sald (μ := n_mlaw nm) (pc := 1120) hX dl_1120) <|
  n_c (s_callVc (s_callV (μ := n_mlaw nm) (pc := 1121) (csX12_key N hG) (by decide) okX12_key nok12 w_2052 w_2053 w_2051 dl_1121) (gk107 hG)) <|
  n_c (s_icmp_eq (μ := n_mlaw nm) (pc := 1124) (off := 551) dl_1124 (by decide +kernel)) <|
  n_c (s_iconst (μ := n_mlaw nm) (pc := 1127) (n := 0) dl_1127 (by decide +kernel)) <|
  n_c (s_no) <|
  n_e
noncomputable def fl_key (N : Nat) (G : nG) (L : Nat) (xs : Nat → Int32) (kk : Int32 → nM → Option nR) (x3 : Int32) (M : nM) : Option nR :=
  n_chk (n_ib L (x3 + (1 : Int32))) <|
  n_chk (n_ib L (x3 + (2 : Int32))) <|
  (fX11_key G (xs (x3 + (1 : Int32)).toNatClampNeg) (xs (x3 + (2 : Int32)).toNatClampNeg) M).bind fun p =>
  n_chk (n_ib L (x3 + (1 : Int32))) <|
  n_chk (n_ib L (x3 + (2 : Int32))) <|
  (fX12_key N (xs (x3 + (1 : Int32)).toNatClampNeg) (xs (x3 + (2 : Int32)).toNatClampNeg) p.2).bind fun q =>
  if p.1 = q.1 then kk x3 q.2 else none
set_option maxRecDepth 200000 in
theorem lc_key {l : Launch} {w : nW} {nm : String} {G : nG} {L : Nat} {xs : Nat → Int32} (N : Nat) (hG : n_GOK G) (hX : n_PX w L xs) (hT : n_PS w) (i : Int32) (M M1 M2 : nM) (v : Int32) (r : nR) (hb1 : n_ib L (i + (1 : Int32)) = true) (hb2 : n_ib L (i + (2 : Int32)) = true) (h1 : fX11_key G (xs (i + (1 : Int32)).toNatClampNeg) (xs (i + (2 : Int32)).toNatClampNeg) M = some (v, M1)) (h2 : fX12_key N (xs (i + (1 : Int32)).toNatClampNeg) (xs (i + (2 : Int32)).toNatClampNeg) M1 = some (v, M2)) (h3 : n_Lw l w nm 1675 i (G, M2) r) : n_Lw l w nm 1096 i (G, M) r :=
  n_seg (fin := fun r => r) (K := [(1675, fun lv st M => n_lS 0 lv 0 (n_lC 1 lv 1 (n_lC 107 lv 2 (n_lI lv 3 (fun x3 => n_pE st (n_one i M2 r x3 M))))))]) 31 (ia_key N hG hX hT) (n_kc (fun lv st M' r' k => by
    obtain ⟨e0, k0⟩ := n_lS_x k
    obtain ⟨e1, k1⟩ := n_lC_x k0
    obtain ⟨e2, k2⟩ := n_lC_x k1
    obtain ⟨x3, e3, k3⟩ := n_lI_x k2
    obtain ⟨rfl, k4⟩ := n_pE_x k3
    exact n_sub (n_qc e0 (n_qc e1 (n_qc e2 (n_qc e3 n_qe)))) (by obtain ⟨rfl, rfl, rfl⟩ := n_one_x k4; exact h3)) n_ke) (F := fl_key N G L xs (n_one i M2 r) i M) (by rfl) (by
    unfold fl_key
    simp only [hb1, hb2, n_chk, h1, h2, Option.bind_some, ↓reduceIte, n_one_at])
noncomputable abbrev al_opened (N : Nat) (G : nG) (L : Nat) (xs : Nat → Int32) : List (Nat × nO nR) := [(1129, o_aload 1 1130), (1130, o_aloadS 0 1131), (1131, o_iload 3 1132), (1132, o_push (.int (1 : Int32)) 1133), (1133, o_iadd 1134), (1134, o_sald L xs 1135), (1135, o_callVc 1 1 (hX11_opened N G) 1138), (1138, o_aload 2 1139), (1139, o_aloadS 0 1140), (1140, o_iload 3 1141), (1141, o_push (.int (1 : Int32)) 1142), (1142, o_iadd 1143), (1143, o_sald L xs 1144), (1144, o_callVc 107 1 (hX12_opened N) 1147), (1147, oc_eq 1675 1150), (1150, o_push (.int (0 : Int32)) 1151), (1151, o_no)]
set_option maxRecDepth 200000 in
theorem ia_opened {l : Launch} {w : nW} {nm : String} {G : nG} {L : Nat} {xs : Nat → Int32} (N : Nat) (hG : n_GOK G) (hX : n_PX w L xs) (hT : n_PS w) : n_AllS l w 530 (n_mlaw nm) G (fun r => r) (al_opened N G L xs) :=
  n_c (s_aload_n (μ := n_mlaw nm) (pc := 1129) (k := 1) dl_1129) <|
  n_c (s_aloadS (μ := n_mlaw nm) (pc := 1130) (k := 0) dl_1130) <|
  n_c (s_iload_n (μ := n_mlaw nm) (pc := 1131) (k := 3) dl_1131) <|
  n_c (s_iconst (μ := n_mlaw nm) (pc := 1132) (n := 1) dl_1132 (by decide +kernel)) <|
  n_c (s_iadd (μ := n_mlaw nm) (pc := 1133) dl_1133) <|
  n_c (s_sald (μ := n_mlaw nm) (pc := 1134) hX dl_1134) <|
  n_c (s_callVc (s_callV (μ := n_mlaw nm) (pc := 1135) (csX11_opened N hG) (by decide) okX11_opened nok11 w_1191 w_1192 w_1190 dl_1135) (gk1 hG)) <|
  n_c (s_aload_n (μ := n_mlaw nm) (pc := 1138) (k := 2) dl_1138) <|
  n_c (s_aloadS (μ := n_mlaw nm) (pc := 1139) (k := 0) dl_1139) <|
  n_c (s_iload_n (μ := n_mlaw nm) (pc := 1140) (k := 3) dl_1140) <|
  n_c (s_iconst (μ := n_mlaw nm) (pc := 1141) (n := 1) dl_1141 (by decide +kernel)) <|
  n_c (s_iadd (μ := n_mlaw nm) (pc := 1142) dl_1142) <|
  n_c (s_sald (μ := n_mlaw nm) (pc := 1143) hX dl_1143) <|
  n_c (s_callVc (s_callV (μ := n_mlaw nm) (pc := 1144) (csX12_opened N hG) (by decide) okX12_opened nok12 w_2056 w_2057 w_2055 dl_1144) (gk107 hG)) <|
  n_c (s_icmp_eq (μ := n_mlaw nm) (pc := 1147) (off := 528) dl_1147 (by decide +kernel)) <|
  n_c (s_iconst (μ := n_mlaw nm) (pc := 1150) (n := 0) dl_1150 (by decide +kernel)) <|
  n_c (s_no) <|
  n_e
noncomputable def fl_opened (N : Nat) (G : nG) (L : Nat) (xs : Nat → Int32) (kk : Int32 → nM → Option nR) (x3 : Int32) (M : nM) : Option nR :=
  n_chk (n_ib L (x3 + (1 : Int32))) <|
  (fX11_opened N G (xs (x3 + (1 : Int32)).toNatClampNeg) M).bind fun p =>
  n_chk (n_ib L (x3 + (1 : Int32))) <|
  (fX12_opened N (xs (x3 + (1 : Int32)).toNatClampNeg) p.2).bind fun q =>
  if p.1 = q.1 then kk x3 q.2 else none
set_option maxRecDepth 200000 in
theorem lc_opened {l : Launch} {w : nW} {nm : String} {G : nG} {L : Nat} {xs : Nat → Int32} (N : Nat) (hG : n_GOK G) (hX : n_PX w L xs) (hT : n_PS w) (i : Int32) (M M1 M2 : nM) (v : Int32) (r : nR) (hb1 : n_ib L (i + (1 : Int32)) = true) (h1 : fX11_opened N G (xs (i + (1 : Int32)).toNatClampNeg) M = some (v, M1)) (h2 : fX12_opened N (xs (i + (1 : Int32)).toNatClampNeg) M1 = some (v, M2)) (h3 : n_Lw l w nm 1675 i (G, M2) r) : n_Lw l w nm 1129 i (G, M) r :=
  n_seg (fin := fun r => r) (K := [(1675, fun lv st M => n_lS 0 lv 0 (n_lC 1 lv 1 (n_lC 107 lv 2 (n_lI lv 3 (fun x3 => n_pE st (n_one i M2 r x3 M))))))]) 21 (ia_opened N hG hX hT) (n_kc (fun lv st M' r' k => by
    obtain ⟨e0, k0⟩ := n_lS_x k
    obtain ⟨e1, k1⟩ := n_lC_x k0
    obtain ⟨e2, k2⟩ := n_lC_x k1
    obtain ⟨x3, e3, k3⟩ := n_lI_x k2
    obtain ⟨rfl, k4⟩ := n_pE_x k3
    exact n_sub (n_qc e0 (n_qc e1 (n_qc e2 (n_qc e3 n_qe)))) (by obtain ⟨rfl, rfl, rfl⟩ := n_one_x k4; exact h3)) n_ke) (F := fl_opened N G L xs (n_one i M2 r) i M) (by rfl) (by
    unfold fl_opened
    simp only [hb1, n_chk, h1, h2, Option.bind_some, ↓reduceIte, n_one_at])
noncomputable abbrev al_ring (N : Nat) (G : nG) (L : Nat) (xs : Nat → Int32) : List (Nat × nO nR) := [(1152, o_aload 1 1153), (1153, o_aloadS 0 1154), (1154, o_iload 3 1155), (1155, o_push (.int (1 : Int32)) 1156), (1156, o_iadd 1157), (1157, o_sald L xs 1158), (1158, o_aloadS 0 1159), (1159, o_iload 3 1160), (1160, o_push (.int (2 : Int32)) 1161), (1161, o_iadd 1162), (1162, o_sald L xs 1163), (1163, o_aloadS 0 1164), (1164, o_iload 3 1165), (1165, o_push (.int (3 : Int32)) 1166), (1166, o_iadd 1167), (1167, o_sald L xs 1168), (1168, o_callVc 1 3 (hX11_ring N) 1171), (1171, o_aload 2 1172), (1172, o_aloadS 0 1173), (1173, o_iload 3 1174), (1174, o_push (.int (1 : Int32)) 1175), (1175, o_iadd 1176), (1176, o_sald L xs 1177), (1177, o_aloadS 0 1178), (1178, o_iload 3 1179), (1179, o_push (.int (2 : Int32)) 1180), (1180, o_iadd 1181), (1181, o_sald L xs 1182), (1182, o_aloadS 0 1183), (1183, o_iload 3 1184), (1184, o_push (.int (3 : Int32)) 1185), (1185, o_iadd 1186), (1186, o_sald L xs 1187), (1187, o_callVc 107 3 (hX12_ring N) 1190), (1190, oc_eq 1675 1193), (1193, o_push (.int (0 : Int32)) 1194), (1194, o_no)]
set_option maxRecDepth 200000 in
theorem ia_ring {l : Launch} {w : nW} {nm : String} {G : nG} {L : Nat} {xs : Nat → Int32} (N : Nat) (hG : n_GOK G) (hX : n_PX w L xs) (hT : n_PS w) : n_AllS l w 530 (n_mlaw nm) G (fun r => r) (al_ring N G L xs) :=
  n_c (s_aload_n (μ := n_mlaw nm) (pc := 1152) (k := 1) dl_1152) <|
  n_c (s_aloadS (μ := n_mlaw nm) (pc := 1153) (k := 0) dl_1153) <|
  n_c (s_iload_n (μ := n_mlaw nm) (pc := 1154) (k := 3) dl_1154) <|
  n_c (s_iconst (μ := n_mlaw nm) (pc := 1155) (n := 1) dl_1155 (by decide +kernel)) <|
  n_c (s_iadd (μ := n_mlaw nm) (pc := 1156) dl_1156) <|
  n_c (s_sald (μ := n_mlaw nm) (pc := 1157) hX dl_1157) <|
  n_c (s_aloadS (μ := n_mlaw nm) (pc := 1158) (k := 0) dl_1158) <|
  n_c (s_iload_n (μ := n_mlaw nm) (pc := 1159) (k := 3) dl_1159) <|
  n_c (s_iconst (μ := n_mlaw nm) (pc := 1160) (n := 2) dl_1160 (by decide +kernel)) <|
  n_c (s_iadd (μ := n_mlaw nm) (pc := 1161) dl_1161) <|
  n_c (s_sald (μ := n_mlaw nm) (pc := 1162) hX dl_1162) <|
  n_c (s_aloadS (μ := n_mlaw nm) (pc := 1163) (k := 0) dl_1163) <|
  n_c (s_iload_n (μ := n_mlaw nm) (pc := 1164) (k := 3) dl_1164) <|
  n_c (s_iconst (μ := n_mlaw nm) (pc := 1165) (n := 3) dl_1165 (by decide +kernel)) <|
  n_c (s_iadd (μ := n_mlaw nm) (pc := 1166) dl_1166) <|
  n_c (s_sald (μ := n_mlaw nm) (pc := 1167) hX dl_1167) <|
  n_c (s_callVc (s_callV (μ := n_mlaw nm) (pc := 1168) (csX11_ring N) (by decide) okX11_ring nok11 w_1204 w_1205 w_1203 dl_1168) (gk1 hG)) <|
  n_c (s_aload_n (μ := n_mlaw nm) (pc := 1171) (k := 2) dl_1171) <|
  n_c (s_aloadS (μ := n_mlaw nm) (pc := 1172) (k := 0) dl_1172) <|
  n_c (s_iload_n (μ := n_mlaw nm) (pc := 1173) (k := 3) dl_1173) <|
  n_c (s_iconst (μ := n_mlaw nm) (pc := 1174) (n := 1) dl_1174 (by decide +kernel)) <|
  n_c (s_iadd (μ := n_mlaw nm) (pc := 1175) dl_1175) <|
  n_c (s_sald (μ := n_mlaw nm) (pc := 1176) hX dl_1176) <|
  n_c (s_aloadS (μ := n_mlaw nm) (pc := 1177) (k := 0) dl_1177) <|
  n_c (s_iload_n (μ := n_mlaw nm) (pc := 1178) (k := 3) dl_1178) <|
  n_c (s_iconst (μ := n_mlaw nm) (pc := 1179) (n := 2) dl_1179 (by decide +kernel)) <|
  n_c (s_iadd (μ := n_mlaw nm) (pc := 1180) dl_1180) <|
  n_c (s_sald (μ := n_mlaw nm) (pc := 1181) hX dl_1181) <|
  n_c (s_aloadS (μ := n_mlaw nm) (pc := 1182) (k := 0) dl_1182) <|
  n_c (s_iload_n (μ := n_mlaw nm) (pc := 1183) (k := 3) dl_1183) <|
  n_c (s_iconst (μ := n_mlaw nm) (pc := 1184) (n := 3) dl_1184 (by decide +kernel)) <|
  n_c (s_iadd (μ := n_mlaw nm) (pc := 1185) dl_1185) <|
  n_c (s_sald (μ := n_mlaw nm) (pc := 1186) hX dl_1186) <|
  n_c (s_callVc (s_callV (μ := n_mlaw nm) (pc := 1187) (csX12_ring N hG) (by decide) okX12_ring nok12 w_2068 w_2069 w_2067 dl_1187) (gk107 hG)) <|
  n_c (s_icmp_eq (μ := n_mlaw nm) (pc := 1190) (off := 485) dl_1190 (by decide +kernel)) <|
  n_c (s_iconst (μ := n_mlaw nm) (pc := 1193) (n := 0) dl_1193 (by decide +kernel)) <|
  n_c (s_no) <|
  n_e
noncomputable def fl_ring (N : Nat) (G : nG) (L : Nat) (xs : Nat → Int32) (kk : Int32 → nM → Option nR) (x3 : Int32) (M : nM) : Option nR :=
  n_chk (n_ib L (x3 + (1 : Int32))) <|
  n_chk (n_ib L (x3 + (2 : Int32))) <|
  n_chk (n_ib L (x3 + (3 : Int32))) <|
  (fX11_ring N (xs (x3 + (1 : Int32)).toNatClampNeg) (xs (x3 + (2 : Int32)).toNatClampNeg) (xs (x3 + (3 : Int32)).toNatClampNeg) M).bind fun p =>
  n_chk (n_ib L (x3 + (1 : Int32))) <|
  n_chk (n_ib L (x3 + (2 : Int32))) <|
  n_chk (n_ib L (x3 + (3 : Int32))) <|
  (fX12_ring N (xs (x3 + (1 : Int32)).toNatClampNeg) (xs (x3 + (2 : Int32)).toNatClampNeg) (xs (x3 + (3 : Int32)).toNatClampNeg) p.2).bind fun q =>
  if p.1 = q.1 then kk x3 q.2 else none
set_option maxRecDepth 200000 in
theorem lc_ring {l : Launch} {w : nW} {nm : String} {G : nG} {L : Nat} {xs : Nat → Int32} (N : Nat) (hG : n_GOK G) (hX : n_PX w L xs) (hT : n_PS w) (i : Int32) (M M1 M2 : nM) (v : Int32) (r : nR) (hb1 : n_ib L (i + (1 : Int32)) = true) (hb2 : n_ib L (i + (2 : Int32)) = true) (hb3 : n_ib L (i + (3 : Int32)) = true) (h1 : fX11_ring N (xs (i + (1 : Int32)).toNatClampNeg) (xs (i + (2 : Int32)).toNatClampNeg) (xs (i + (3 : Int32)).toNatClampNeg) M = some (v, M1)) (h2 : fX12_ring N (xs (i + (1 : Int32)).toNatClampNeg) (xs (i + (2 : Int32)).toNatClampNeg) (xs (i + (3 : Int32)).toNatClampNeg) M1 = some (v, M2)) (h3 : n_Lw l w nm 1675 i (G, M2) r) : n_Lw l w nm 1152 i (G, M) r :=
  n_seg (fin := fun r => r) (K := [(1675, fun lv st M => n_lS 0 lv 0 (n_lC 1 lv 1 (n_lC 107 lv 2 (n_lI lv 3 (fun x3 => n_pE st (n_one i M2 r x3 M))))))]) 41 (ia_ring N hG hX hT) (n_kc (fun lv st M' r' k => by
    obtain ⟨e0, k0⟩ := n_lS_x k
    obtain ⟨e1, k1⟩ := n_lC_x k0
    obtain ⟨e2, k2⟩ := n_lC_x k1
    obtain ⟨x3, e3, k3⟩ := n_lI_x k2
    obtain ⟨rfl, k4⟩ := n_pE_x k3
    exact n_sub (n_qc e0 (n_qc e1 (n_qc e2 (n_qc e3 n_qe)))) (by obtain ⟨rfl, rfl, rfl⟩ := n_one_x k4; exact h3)) n_ke) (F := fl_ring N G L xs (n_one i M2 r) i M) (by rfl) (by
    unfold fl_ring
    simp only [hb1, hb2, hb3, n_chk, h1, h2, Option.bind_some, ↓reduceIte, n_one_at])
noncomputable abbrev al_gift (N : Nat) (G : nG) (L : Nat) (xs : Nat → Int32) : List (Nat × nO nR) := [(1195, o_aload 1 1196), (1196, o_aloadS 0 1197), (1197, o_iload 3 1198), (1198, o_push (.int (1 : Int32)) 1199), (1199, o_iadd 1200), (1200, o_sald L xs 1201), (1201, o_aloadS 0 1202), (1202, o_iload 3 1203), (1203, o_push (.int (2 : Int32)) 1204), (1204, o_iadd 1205), (1205, o_sald L xs 1206), (1206, o_callVc 1 2 (hX11_gift G) 1209), (1209, o_aload 2 1210), (1210, o_aloadS 0 1211), (1211, o_iload 3 1212), (1212, o_push (.int (1 : Int32)) 1213), (1213, o_iadd 1214), (1214, o_sald L xs 1215), (1215, o_aloadS 0 1216), (1216, o_iload 3 1217), (1217, o_push (.int (2 : Int32)) 1218), (1218, o_iadd 1219), (1219, o_sald L xs 1220), (1220, o_callVc 107 2 (hX12_gift) 1223), (1223, oc_eq 1675 1226), (1226, o_push (.int (0 : Int32)) 1227), (1227, o_no)]
set_option maxRecDepth 200000 in
theorem ia_gift {l : Launch} {w : nW} {nm : String} {G : nG} {L : Nat} {xs : Nat → Int32} (N : Nat) (hG : n_GOK G) (hX : n_PX w L xs) (hT : n_PS w) : n_AllS l w 530 (n_mlaw nm) G (fun r => r) (al_gift N G L xs) :=
  n_c (s_aload_n (μ := n_mlaw nm) (pc := 1195) (k := 1) dl_1195) <|
  n_c (s_aloadS (μ := n_mlaw nm) (pc := 1196) (k := 0) dl_1196) <|
  n_c (s_iload_n (μ := n_mlaw nm) (pc := 1197) (k := 3) dl_1197) <|
  n_c (s_iconst (μ := n_mlaw nm) (pc := 1198) (n := 1) dl_1198 (by decide +kernel)) <|
  n_c (s_iadd (μ := n_mlaw nm) (pc := 1199) dl_1199) <|
  n_c (s_sald (μ := n_mlaw nm) (pc := 1200) hX dl_1200) <|
  n_c (s_aloadS (μ := n_mlaw nm) (pc := 1201) (k := 0) dl_1201) <|
  n_c (s_iload_n (μ := n_mlaw nm) (pc := 1202) (k := 3) dl_1202) <|
  n_c (s_iconst (μ := n_mlaw nm) (pc := 1203) (n := 2) dl_1203 (by decide +kernel)) <|
  n_c (s_iadd (μ := n_mlaw nm) (pc := 1204) dl_1204) <|
  n_c (s_sald (μ := n_mlaw nm) (pc := 1205) hX dl_1205) <|
  n_c (s_callVc (s_callV (μ := n_mlaw nm) (pc := 1206) (csX11_gift hG) (by decide) okX11_gift nok11 w_1214 w_1215 w_1213 dl_1206) (gk1 hG)) <|
  n_c (s_aload_n (μ := n_mlaw nm) (pc := 1209) (k := 2) dl_1209) <|
  n_c (s_aloadS (μ := n_mlaw nm) (pc := 1210) (k := 0) dl_1210) <|
  n_c (s_iload_n (μ := n_mlaw nm) (pc := 1211) (k := 3) dl_1211) <|
  n_c (s_iconst (μ := n_mlaw nm) (pc := 1212) (n := 1) dl_1212 (by decide +kernel)) <|
  n_c (s_iadd (μ := n_mlaw nm) (pc := 1213) dl_1213) <|
  n_c (s_sald (μ := n_mlaw nm) (pc := 1214) hX dl_1214) <|
  n_c (s_aloadS (μ := n_mlaw nm) (pc := 1215) (k := 0) dl_1215) <|
  n_c (s_iload_n (μ := n_mlaw nm) (pc := 1216) (k := 3) dl_1216) <|
  n_c (s_iconst (μ := n_mlaw nm) (pc := 1217) (n := 2) dl_1217 (by decide +kernel)) <|
  n_c (s_iadd (μ := n_mlaw nm) (pc := 1218) dl_1218) <|
  n_c (s_sald (μ := n_mlaw nm) (pc := 1219) hX dl_1219) <|
  n_c (s_callVc (s_callV (μ := n_mlaw nm) (pc := 1220) (csX12_gift hG) (by decide) okX12_gift nok12 w_2072 w_2073 w_2071 dl_1220) (gk107 hG)) <|
  n_c (s_icmp_eq (μ := n_mlaw nm) (pc := 1223) (off := 452) dl_1223 (by decide +kernel)) <|
  n_c (s_iconst (μ := n_mlaw nm) (pc := 1226) (n := 0) dl_1226 (by decide +kernel)) <|
  n_c (s_no) <|
  n_e
noncomputable def fl_gift (N : Nat) (G : nG) (L : Nat) (xs : Nat → Int32) (kk : Int32 → nM → Option nR) (x3 : Int32) (M : nM) : Option nR :=
  n_chk (n_ib L (x3 + (1 : Int32))) <|
  n_chk (n_ib L (x3 + (2 : Int32))) <|
  (fX11_gift G (xs (x3 + (1 : Int32)).toNatClampNeg) (xs (x3 + (2 : Int32)).toNatClampNeg) M).bind fun p =>
  n_chk (n_ib L (x3 + (1 : Int32))) <|
  n_chk (n_ib L (x3 + (2 : Int32))) <|
  (fX12_gift (xs (x3 + (1 : Int32)).toNatClampNeg) (xs (x3 + (2 : Int32)).toNatClampNeg) p.2).bind fun q =>
  if p.1 = q.1 then kk x3 q.2 else none
set_option maxRecDepth 200000 in
theorem lc_gift {l : Launch} {w : nW} {nm : String} {G : nG} {L : Nat} {xs : Nat → Int32} (N : Nat) (hG : n_GOK G) (hX : n_PX w L xs) (hT : n_PS w) (i : Int32) (M M1 M2 : nM) (v : Int32) (r : nR) (hb1 : n_ib L (i + (1 : Int32)) = true) (hb2 : n_ib L (i + (2 : Int32)) = true) (h1 : fX11_gift G (xs (i + (1 : Int32)).toNatClampNeg) (xs (i + (2 : Int32)).toNatClampNeg) M = some (v, M1)) (h2 : fX12_gift (xs (i + (1 : Int32)).toNatClampNeg) (xs (i + (2 : Int32)).toNatClampNeg) M1 = some (v, M2)) (h3 : n_Lw l w nm 1675 i (G, M2) r) : n_Lw l w nm 1195 i (G, M) r :=
  n_seg (fin := fun r => r) (K := [(1675, fun lv st M => n_lS 0 lv 0 (n_lC 1 lv 1 (n_lC 107 lv 2 (n_lI lv 3 (fun x3 => n_pE st (n_one i M2 r x3 M))))))]) 31 (ia_gift N hG hX hT) (n_kc (fun lv st M' r' k => by
    obtain ⟨e0, k0⟩ := n_lS_x k
    obtain ⟨e1, k1⟩ := n_lC_x k0
    obtain ⟨e2, k2⟩ := n_lC_x k1
    obtain ⟨x3, e3, k3⟩ := n_lI_x k2
    obtain ⟨rfl, k4⟩ := n_pE_x k3
    exact n_sub (n_qc e0 (n_qc e1 (n_qc e2 (n_qc e3 n_qe)))) (by obtain ⟨rfl, rfl, rfl⟩ := n_one_x k4; exact h3)) n_ke) (F := fl_gift N G L xs (n_one i M2 r) i M) (by rfl) (by
    unfold fl_gift
    simp only [hb1, hb2, n_chk, h1, h2, Option.bind_some, ↓reduceIte, n_one_at])
noncomputable abbrev al_heir (N : Nat) (G : nG) (L : Nat) (xs : Nat → Int32) : List (Nat × nO nR) := [(1228, o_aload 1 1229), (1229, o_aloadS 0 1230), (1230, o_iload 3 1231), (1231, o_push (.int (1 : Int32)) 1232), (1232, o_iadd 1233), (1233, o_sald L xs 1234), (1234, o_callVc 1 1 (hX11_heir N G) 1237), (1237, o_aload 2 1238), (1238, o_aloadS 0 1239), (1239, o_iload 3 1240), (1240, o_push (.int (1 : Int32)) 1241), (1241, o_iadd 1242), (1242, o_sald L xs 1243), (1243, o_callVc 107 1 (hX12_heir N) 1246), (1246, oc_eq 1675 1249), (1249, o_push (.int (0 : Int32)) 1250), (1250, o_no)]
set_option maxRecDepth 200000 in
theorem ia_heir {l : Launch} {w : nW} {nm : String} {G : nG} {L : Nat} {xs : Nat → Int32} (N : Nat) (hG : n_GOK G) (hX : n_PX w L xs) (hT : n_PS w) : n_AllS l w 530 (n_mlaw nm) G (fun r => r) (al_heir N G L xs) :=
  n_c (s_aload_n (μ := n_mlaw nm) (pc := 1228) (k := 1) dl_1228) <|
  n_c (s_aloadS (μ := n_mlaw nm) (pc := 1229) (k := 0) dl_1229) <|
  n_c (s_iload_n (μ := n_mlaw nm) (pc := 1230) (k := 3) dl_1230) <|
  n_c (s_iconst (μ := n_mlaw nm) (pc := 1231) (n := 1) dl_1231 (by decide +kernel)) <|
  n_c (s_iadd (μ := n_mlaw nm) (pc := 1232) dl_1232) <|
  n_c (s_sald (μ := n_mlaw nm) (pc := 1233) hX dl_1233) <|
  n_c (s_callVc (s_callV (μ := n_mlaw nm) (pc := 1234) (csX11_heir N hG) (by decide) okX11_heir nok11 w_1218 w_1219 w_1217 dl_1234) (gk1 hG)) <|
  n_c (s_aload_n (μ := n_mlaw nm) (pc := 1237) (k := 2) dl_1237) <|
  n_c (s_aloadS (μ := n_mlaw nm) (pc := 1238) (k := 0) dl_1238) <|
  n_c (s_iload_n (μ := n_mlaw nm) (pc := 1239) (k := 3) dl_1239) <|
  n_c (s_iconst (μ := n_mlaw nm) (pc := 1240) (n := 1) dl_1240 (by decide +kernel)) <|
  n_c (s_iadd (μ := n_mlaw nm) (pc := 1241) dl_1241) <|
  n_c (s_sald (μ := n_mlaw nm) (pc := 1242) hX dl_1242) <|
  n_c (s_callVc (s_callV (μ := n_mlaw nm) (pc := 1243) (csX12_heir N hG) (by decide) okX12_heir nok12 w_2076 w_2077 w_2075 dl_1243) (gk107 hG)) <|
  n_c (s_icmp_eq (μ := n_mlaw nm) (pc := 1246) (off := 429) dl_1246 (by decide +kernel)) <|
  n_c (s_iconst (μ := n_mlaw nm) (pc := 1249) (n := 0) dl_1249 (by decide +kernel)) <|
  n_c (s_no) <|
  n_e
noncomputable def fl_heir (N : Nat) (G : nG) (L : Nat) (xs : Nat → Int32) (kk : Int32 → nM → Option nR) (x3 : Int32) (M : nM) : Option nR :=
  n_chk (n_ib L (x3 + (1 : Int32))) <|
  (fX11_heir N G (xs (x3 + (1 : Int32)).toNatClampNeg) M).bind fun p =>
  n_chk (n_ib L (x3 + (1 : Int32))) <|
  (fX12_heir N (xs (x3 + (1 : Int32)).toNatClampNeg) p.2).bind fun q =>
  if p.1 = q.1 then kk x3 q.2 else none
set_option maxRecDepth 200000 in
theorem lc_heir {l : Launch} {w : nW} {nm : String} {G : nG} {L : Nat} {xs : Nat → Int32} (N : Nat) (hG : n_GOK G) (hX : n_PX w L xs) (hT : n_PS w) (i : Int32) (M M1 M2 : nM) (v : Int32) (r : nR) (hb1 : n_ib L (i + (1 : Int32)) = true) (h1 : fX11_heir N G (xs (i + (1 : Int32)).toNatClampNeg) M = some (v, M1)) (h2 : fX12_heir N (xs (i + (1 : Int32)).toNatClampNeg) M1 = some (v, M2)) (h3 : n_Lw l w nm 1675 i (G, M2) r) : n_Lw l w nm 1228 i (G, M) r :=
  n_seg (fin := fun r => r) (K := [(1675, fun lv st M => n_lS 0 lv 0 (n_lC 1 lv 1 (n_lC 107 lv 2 (n_lI lv 3 (fun x3 => n_pE st (n_one i M2 r x3 M))))))]) 21 (ia_heir N hG hX hT) (n_kc (fun lv st M' r' k => by
    obtain ⟨e0, k0⟩ := n_lS_x k
    obtain ⟨e1, k1⟩ := n_lC_x k0
    obtain ⟨e2, k2⟩ := n_lC_x k1
    obtain ⟨x3, e3, k3⟩ := n_lI_x k2
    obtain ⟨rfl, k4⟩ := n_pE_x k3
    exact n_sub (n_qc e0 (n_qc e1 (n_qc e2 (n_qc e3 n_qe)))) (by obtain ⟨rfl, rfl, rfl⟩ := n_one_x k4; exact h3)) n_ke) (F := fl_heir N G L xs (n_one i M2 r) i M) (by rfl) (by
    unfold fl_heir
    simp only [hb1, n_chk, h1, h2, Option.bind_some, ↓reduceIte, n_one_at])
noncomputable abbrev al_weighings (N : Nat) (G : nG) (L : Nat) (xs : Nat → Int32) : List (Nat × nO nR) := [(1251, o_aload 1 1252), (1252, o_aloadS 0 1253), (1253, o_iload 3 1254), (1254, o_push (.int (1 : Int32)) 1255), (1255, o_iadd 1256), (1256, o_sald L xs 1257), (1257, o_aloadS 0 1258), (1258, o_iload 3 1259), (1259, o_push (.int (2 : Int32)) 1260), (1260, o_iadd 1261), (1261, o_sald L xs 1262), (1262, o_callVc 1 2 (hX11_weighings N) 1265), (1265, o_aload 2 1266), (1266, o_aloadS 0 1267), (1267, o_iload 3 1268), (1268, o_push (.int (1 : Int32)) 1269), (1269, o_iadd 1270), (1270, o_sald L xs 1271), (1271, o_aloadS 0 1272), (1272, o_iload 3 1273), (1273, o_push (.int (2 : Int32)) 1274), (1274, o_iadd 1275), (1275, o_sald L xs 1276), (1276, o_callVc 107 2 (hX12_weighings N) 1279), (1279, oc_eq 1675 1282), (1282, o_push (.int (0 : Int32)) 1283), (1283, o_no)]
set_option maxRecDepth 200000 in
theorem ia_weighings {l : Launch} {w : nW} {nm : String} {G : nG} {L : Nat} {xs : Nat → Int32} (N : Nat) (hG : n_GOK G) (hX : n_PX w L xs) (hT : n_PS w) : n_AllS l w 530 (n_mlaw nm) G (fun r => r) (al_weighings N G L xs) :=
  n_c (s_aload_n (μ := n_mlaw nm) (pc := 1251) (k := 1) dl_1251) <|
  n_c (s_aloadS (μ := n_mlaw nm) (pc := 1252) (k := 0) dl_1252) <|
  n_c (s_iload_n (μ := n_mlaw nm) (pc := 1253) (k := 3) dl_1253) <|
  n_c (s_iconst (μ := n_mlaw nm) (pc := 1254) (n := 1) dl_1254 (by decide +kernel)) <|
  n_c (s_iadd (μ := n_mlaw nm) (pc := 1255) dl_1255) <|
  n_c (s_sald (μ := n_mlaw nm) (pc := 1256) hX dl_1256) <|
  n_c (s_aloadS (μ := n_mlaw nm) (pc := 1257) (k := 0) dl_1257) <|
  n_c (s_iload_n (μ := n_mlaw nm) (pc := 1258) (k := 3) dl_1258) <|
  n_c (s_iconst (μ := n_mlaw nm) (pc := 1259) (n := 2) dl_1259 (by decide +kernel)) <|
  n_c (s_iadd (μ := n_mlaw nm) (pc := 1260) dl_1260) <|
  n_c (s_sald (μ := n_mlaw nm) (pc := 1261) hX dl_1261) <|
  n_c (s_callVc (s_callV (μ := n_mlaw nm) (pc := 1262) (csX11_weighings N) (by decide) okX11_weighings nok11 w_1278 w_1279 w_1277 dl_1262) (gk1 hG)) <|
  n_c (s_aload_n (μ := n_mlaw nm) (pc := 1265) (k := 2) dl_1265) <|
  n_c (s_aloadS (μ := n_mlaw nm) (pc := 1266) (k := 0) dl_1266) <|
  n_c (s_iload_n (μ := n_mlaw nm) (pc := 1267) (k := 3) dl_1267) <|
  n_c (s_iconst (μ := n_mlaw nm) (pc := 1268) (n := 1) dl_1268 (by decide +kernel)) <|
  n_c (s_iadd (μ := n_mlaw nm) (pc := 1269) dl_1269) <|
  n_c (s_sald (μ := n_mlaw nm) (pc := 1270) hX dl_1270) <|
  n_c (s_aloadS (μ := n_mlaw nm) (pc := 1271) (k := 0) dl_1271) <|
  n_c (s_iload_n (μ := n_mlaw nm) (pc := 1272) (k := 3) dl_1272) <|
  n_c (s_iconst (μ := n_mlaw nm) (pc := 1273) (n := 2) dl_1273 (by decide +kernel)) <|
  n_c (s_iadd (μ := n_mlaw nm) (pc := 1274) dl_1274) <|
  n_c (s_sald (μ := n_mlaw nm) (pc := 1275) hX dl_1275) <|
  n_c (s_callVc (s_callV (μ := n_mlaw nm) (pc := 1276) (csX12_weighings N hG) (by decide) okX12_weighings nok12 w_2093 w_2094 w_2092 dl_1276) (gk107 hG)) <|
  n_c (s_icmp_eq (μ := n_mlaw nm) (pc := 1279) (off := 396) dl_1279 (by decide +kernel)) <|
  n_c (s_iconst (μ := n_mlaw nm) (pc := 1282) (n := 0) dl_1282 (by decide +kernel)) <|
  n_c (s_no) <|
  n_e
noncomputable def fl_weighings (N : Nat) (G : nG) (L : Nat) (xs : Nat → Int32) (kk : Int32 → nM → Option nR) (x3 : Int32) (M : nM) : Option nR :=
  n_chk (n_ib L (x3 + (1 : Int32))) <|
  n_chk (n_ib L (x3 + (2 : Int32))) <|
  (fX11_weighings N (xs (x3 + (1 : Int32)).toNatClampNeg) (xs (x3 + (2 : Int32)).toNatClampNeg) M).bind fun p =>
  n_chk (n_ib L (x3 + (1 : Int32))) <|
  n_chk (n_ib L (x3 + (2 : Int32))) <|
  (fX12_weighings N (xs (x3 + (1 : Int32)).toNatClampNeg) (xs (x3 + (2 : Int32)).toNatClampNeg) p.2).bind fun q =>
  if p.1 = q.1 then kk x3 q.2 else none
set_option maxRecDepth 200000 in
theorem lc_weighings {l : Launch} {w : nW} {nm : String} {G : nG} {L : Nat} {xs : Nat → Int32} (N : Nat) (hG : n_GOK G) (hX : n_PX w L xs) (hT : n_PS w) (i : Int32) (M M1 M2 : nM) (v : Int32) (r : nR) (hb1 : n_ib L (i + (1 : Int32)) = true) (hb2 : n_ib L (i + (2 : Int32)) = true) (h1 : fX11_weighings N (xs (i + (1 : Int32)).toNatClampNeg) (xs (i + (2 : Int32)).toNatClampNeg) M = some (v, M1)) (h2 : fX12_weighings N (xs (i + (1 : Int32)).toNatClampNeg) (xs (i + (2 : Int32)).toNatClampNeg) M1 = some (v, M2)) (h3 : n_Lw l w nm 1675 i (G, M2) r) : n_Lw l w nm 1251 i (G, M) r :=
  n_seg (fin := fun r => r) (K := [(1675, fun lv st M => n_lS 0 lv 0 (n_lC 1 lv 1 (n_lC 107 lv 2 (n_lI lv 3 (fun x3 => n_pE st (n_one i M2 r x3 M))))))]) 31 (ia_weighings N hG hX hT) (n_kc (fun lv st M' r' k => by
    obtain ⟨e0, k0⟩ := n_lS_x k
    obtain ⟨e1, k1⟩ := n_lC_x k0
    obtain ⟨e2, k2⟩ := n_lC_x k1
    obtain ⟨x3, e3, k3⟩ := n_lI_x k2
    obtain ⟨rfl, k4⟩ := n_pE_x k3
    exact n_sub (n_qc e0 (n_qc e1 (n_qc e2 (n_qc e3 n_qe)))) (by obtain ⟨rfl, rfl, rfl⟩ := n_one_x k4; exact h3)) n_ke) (F := fl_weighings N G L xs (n_one i M2 r) i M) (by rfl) (by
    unfold fl_weighings
    simp only [hb1, hb2, n_chk, h1, h2, Option.bind_some, ↓reduceIte, n_one_at])
noncomputable abbrev al_rings (N : Nat) (G : nG) (L : Nat) (xs : Nat → Int32) : List (Nat × nO nR) := [(1284, o_aload 1 1285), (1285, o_aloadS 0 1286), (1286, o_iload 3 1287), (1287, o_push (.int (1 : Int32)) 1288), (1288, o_iadd 1289), (1289, o_sald L xs 1290), (1290, o_aloadS 0 1291), (1291, o_iload 3 1292), (1292, o_push (.int (2 : Int32)) 1293), (1293, o_iadd 1294), (1294, o_sald L xs 1295), (1295, o_callVc 1 2 (hX11_rings N) 1298), (1298, o_aload 2 1299), (1299, o_aloadS 0 1300), (1300, o_iload 3 1301), (1301, o_push (.int (1 : Int32)) 1302), (1302, o_iadd 1303), (1303, o_sald L xs 1304), (1304, o_aloadS 0 1305), (1305, o_iload 3 1306), (1306, o_push (.int (2 : Int32)) 1307), (1307, o_iadd 1308), (1308, o_sald L xs 1309), (1309, o_callVc 107 2 (hX12_rings N) 1312), (1312, oc_eq 1675 1315), (1315, o_push (.int (0 : Int32)) 1316), (1316, o_no)]
set_option maxRecDepth 200000 in
theorem ia_rings {l : Launch} {w : nW} {nm : String} {G : nG} {L : Nat} {xs : Nat → Int32} (N : Nat) (hG : n_GOK G) (hX : n_PX w L xs) (hT : n_PS w) : n_AllS l w 530 (n_mlaw nm) G (fun r => r) (al_rings N G L xs) :=
  n_c (s_aload_n (μ := n_mlaw nm) (pc := 1284) (k := 1) dl_1284) <|
  n_c (s_aloadS (μ := n_mlaw nm) (pc := 1285) (k := 0) dl_1285) <|
  n_c (s_iload_n (μ := n_mlaw nm) (pc := 1286) (k := 3) dl_1286) <|
  n_c (s_iconst (μ := n_mlaw nm) (pc := 1287) (n := 1) dl_1287 (by decide +kernel)) <|
  n_c (s_iadd (μ := n_mlaw nm) (pc := 1288) dl_1288) <|
  n_c (s_sald (μ := n_mlaw nm) (pc := 1289) hX dl_1289) <|
  n_c (s_aloadS (μ := n_mlaw nm) (pc := 1290) (k := 0) dl_1290) <|
  n_c (s_iload_n (μ := n_mlaw nm) (pc := 1291) (k := 3) dl_1291) <|
  n_c (s_iconst (μ := n_mlaw nm) (pc := 1292) (n := 2) dl_1292 (by decide +kernel)) <|
  n_c (s_iadd (μ := n_mlaw nm) (pc := 1293) dl_1293) <|
  n_c (s_sald (μ := n_mlaw nm) (pc := 1294) hX dl_1294) <|
  n_c (s_callVc (s_callV (μ := n_mlaw nm) (pc := 1295) (csX11_rings N) (by decide) okX11_rings nok11 w_1285 w_1286 w_1284 dl_1295) (gk1 hG)) <|
  n_c (s_aload_n (μ := n_mlaw nm) (pc := 1298) (k := 2) dl_1298) <|
  n_c (s_aloadS (μ := n_mlaw nm) (pc := 1299) (k := 0) dl_1299) <|
  n_c (s_iload_n (μ := n_mlaw nm) (pc := 1300) (k := 3) dl_1300) <|
  n_c (s_iconst (μ := n_mlaw nm) (pc := 1301) (n := 1) dl_1301 (by decide +kernel)) <|
  n_c (s_iadd (μ := n_mlaw nm) (pc := 1302) dl_1302) <|
  n_c (s_sald (μ := n_mlaw nm) (pc := 1303) hX dl_1303) <|
  n_c (s_aloadS (μ := n_mlaw nm) (pc := 1304) (k := 0) dl_1304) <|
  n_c (s_iload_n (μ := n_mlaw nm) (pc := 1305) (k := 3) dl_1305) <|
  n_c (s_iconst (μ := n_mlaw nm) (pc := 1306) (n := 2) dl_1306 (by decide +kernel)) <|
  n_c (s_iadd (μ := n_mlaw nm) (pc := 1307) dl_1307) <|
  n_c (s_sald (μ := n_mlaw nm) (pc := 1308) hX dl_1308) <|
  n_c (s_callVc (s_callV (μ := n_mlaw nm) (pc := 1309) (csX12_rings N hG) (by decide) okX12_rings nok12 w_2097 w_2098 w_2096 dl_1309) (gk107 hG)) <|
  n_c (s_icmp_eq (μ := n_mlaw nm) (pc := 1312) (off := 363) dl_1312 (by decide +kernel)) <|
  n_c (s_iconst (μ := n_mlaw nm) (pc := 1315) (n := 0) dl_1315 (by decide +kernel)) <|
  n_c (s_no) <|
  n_e
noncomputable def fl_rings (N : Nat) (G : nG) (L : Nat) (xs : Nat → Int32) (kk : Int32 → nM → Option nR) (x3 : Int32) (M : nM) : Option nR :=
  n_chk (n_ib L (x3 + (1 : Int32))) <|
  n_chk (n_ib L (x3 + (2 : Int32))) <|
  (fX11_rings N (xs (x3 + (1 : Int32)).toNatClampNeg) (xs (x3 + (2 : Int32)).toNatClampNeg) M).bind fun p =>
  n_chk (n_ib L (x3 + (1 : Int32))) <|
  n_chk (n_ib L (x3 + (2 : Int32))) <|
  (fX12_rings N (xs (x3 + (1 : Int32)).toNatClampNeg) (xs (x3 + (2 : Int32)).toNatClampNeg) p.2).bind fun q =>
  if p.1 = q.1 then kk x3 q.2 else none
set_option maxRecDepth 200000 in
theorem lc_rings {l : Launch} {w : nW} {nm : String} {G : nG} {L : Nat} {xs : Nat → Int32} (N : Nat) (hG : n_GOK G) (hX : n_PX w L xs) (hT : n_PS w) (i : Int32) (M M1 M2 : nM) (v : Int32) (r : nR) (hb1 : n_ib L (i + (1 : Int32)) = true) (hb2 : n_ib L (i + (2 : Int32)) = true) (h1 : fX11_rings N (xs (i + (1 : Int32)).toNatClampNeg) (xs (i + (2 : Int32)).toNatClampNeg) M = some (v, M1)) (h2 : fX12_rings N (xs (i + (1 : Int32)).toNatClampNeg) (xs (i + (2 : Int32)).toNatClampNeg) M1 = some (v, M2)) (h3 : n_Lw l w nm 1675 i (G, M2) r) : n_Lw l w nm 1284 i (G, M) r :=
  n_seg (fin := fun r => r) (K := [(1675, fun lv st M => n_lS 0 lv 0 (n_lC 1 lv 1 (n_lC 107 lv 2 (n_lI lv 3 (fun x3 => n_pE st (n_one i M2 r x3 M))))))]) 31 (ia_rings N hG hX hT) (n_kc (fun lv st M' r' k => by
    obtain ⟨e0, k0⟩ := n_lS_x k
    obtain ⟨e1, k1⟩ := n_lC_x k0
    obtain ⟨e2, k2⟩ := n_lC_x k1
    obtain ⟨x3, e3, k3⟩ := n_lI_x k2
    obtain ⟨rfl, k4⟩ := n_pE_x k3
    exact n_sub (n_qc e0 (n_qc e1 (n_qc e2 (n_qc e3 n_qe)))) (by obtain ⟨rfl, rfl, rfl⟩ := n_one_x k4; exact h3)) n_ke) (F := fl_rings N G L xs (n_one i M2 r) i M) (by rfl) (by
    unfold fl_rings
    simp only [hb1, hb2, n_chk, h1, h2, Option.bind_some, ↓reduceIte, n_one_at])
noncomputable abbrev al_hats (N : Nat) (G : nG) (L : Nat) (xs : Nat → Int32) : List (Nat × nO nR) := [(1317, o_aload 1 1318), (1318, o_aloadS 0 1319), (1319, o_iload 3 1320), (1320, o_push (.int (1 : Int32)) 1321), (1321, o_iadd 1322), (1322, o_sald L xs 1323), (1323, o_aloadS 0 1324), (1324, o_iload 3 1325), (1325, o_push (.int (2 : Int32)) 1326), (1326, o_iadd 1327), (1327, o_sald L xs 1328), (1328, o_callVc 1 2 (hX11_hats N) 1331), (1331, o_aload 2 1332), (1332, o_aloadS 0 1333), (1333, o_iload 3 1334), (1334, o_push (.int (1 : Int32)) 1335), (1335, o_iadd 1336), (1336, o_sald L xs 1337), (1337, o_aloadS 0 1338), (1338, o_iload 3 1339), (1339, o_push (.int (2 : Int32)) 1340), (1340, o_iadd 1341), (1341, o_sald L xs 1342), (1342, o_callVc 107 2 (hX12_hats N) 1345), (1345, oc_eq 1675 1348), (1348, o_push (.int (0 : Int32)) 1349), (1349, o_no)]
set_option maxRecDepth 200000 in
theorem ia_hats {l : Launch} {w : nW} {nm : String} {G : nG} {L : Nat} {xs : Nat → Int32} (N : Nat) (hG : n_GOK G) (hX : n_PX w L xs) (hT : n_PS w) : n_AllS l w 530 (n_mlaw nm) G (fun r => r) (al_hats N G L xs) :=
  n_c (s_aload_n (μ := n_mlaw nm) (pc := 1317) (k := 1) dl_1317) <|
  n_c (s_aloadS (μ := n_mlaw nm) (pc := 1318) (k := 0) dl_1318) <|
  n_c (s_iload_n (μ := n_mlaw nm) (pc := 1319) (k := 3) dl_1319) <|
  n_c (s_iconst (μ := n_mlaw nm) (pc := 1320) (n := 1) dl_1320 (by decide +kernel)) <|
  n_c (s_iadd (μ := n_mlaw nm) (pc := 1321) dl_1321) <|
  n_c (s_sald (μ := n_mlaw nm) (pc := 1322) hX dl_1322) <|
  n_c (s_aloadS (μ := n_mlaw nm) (pc := 1323) (k := 0) dl_1323) <|
  n_c (s_iload_n (μ := n_mlaw nm) (pc := 1324) (k := 3) dl_1324) <|
  n_c (s_iconst (μ := n_mlaw nm) (pc := 1325) (n := 2) dl_1325 (by decide +kernel)) <|
  n_c (s_iadd (μ := n_mlaw nm) (pc := 1326) dl_1326) <|
  n_c (s_sald (μ := n_mlaw nm) (pc := 1327) hX dl_1327) <|
  n_c (s_callVc (s_callV (μ := n_mlaw nm) (pc := 1328) (csX11_hats N) (by decide) okX11_hats nok11 w_1293 w_1294 w_1292 dl_1328) (gk1 hG)) <|
  n_c (s_aload_n (μ := n_mlaw nm) (pc := 1331) (k := 2) dl_1331) <|
  n_c (s_aloadS (μ := n_mlaw nm) (pc := 1332) (k := 0) dl_1332) <|
  n_c (s_iload_n (μ := n_mlaw nm) (pc := 1333) (k := 3) dl_1333) <|
  n_c (s_iconst (μ := n_mlaw nm) (pc := 1334) (n := 1) dl_1334 (by decide +kernel)) <|
  n_c (s_iadd (μ := n_mlaw nm) (pc := 1335) dl_1335) <|
  n_c (s_sald (μ := n_mlaw nm) (pc := 1336) hX dl_1336) <|
  n_c (s_aloadS (μ := n_mlaw nm) (pc := 1337) (k := 0) dl_1337) <|
  n_c (s_iload_n (μ := n_mlaw nm) (pc := 1338) (k := 3) dl_1338) <|
  n_c (s_iconst (μ := n_mlaw nm) (pc := 1339) (n := 2) dl_1339 (by decide +kernel)) <|
  n_c (s_iadd (μ := n_mlaw nm) (pc := 1340) dl_1340) <|
  n_c (s_sald (μ := n_mlaw nm) (pc := 1341) hX dl_1341) <|
  n_c (s_callVc (s_callV (μ := n_mlaw nm) (pc := 1342) (csX12_hats N hG) (by decide) okX12_hats nok12 w_2106 w_2107 w_2105 dl_1342) (gk107 hG)) <|
  n_c (s_icmp_eq (μ := n_mlaw nm) (pc := 1345) (off := 330) dl_1345 (by decide +kernel)) <|
  n_c (s_iconst (μ := n_mlaw nm) (pc := 1348) (n := 0) dl_1348 (by decide +kernel)) <|
  n_c (s_no) <|
  n_e
noncomputable def fl_hats (N : Nat) (G : nG) (L : Nat) (xs : Nat → Int32) (kk : Int32 → nM → Option nR) (x3 : Int32) (M : nM) : Option nR :=
  n_chk (n_ib L (x3 + (1 : Int32))) <|
  n_chk (n_ib L (x3 + (2 : Int32))) <|
  (fX11_hats N (xs (x3 + (1 : Int32)).toNatClampNeg) (xs (x3 + (2 : Int32)).toNatClampNeg) M).bind fun p =>
  n_chk (n_ib L (x3 + (1 : Int32))) <|
  n_chk (n_ib L (x3 + (2 : Int32))) <|
  (fX12_hats N (xs (x3 + (1 : Int32)).toNatClampNeg) (xs (x3 + (2 : Int32)).toNatClampNeg) p.2).bind fun q =>
  if p.1 = q.1 then kk x3 q.2 else none
set_option maxRecDepth 200000 in
theorem lc_hats {l : Launch} {w : nW} {nm : String} {G : nG} {L : Nat} {xs : Nat → Int32} (N : Nat) (hG : n_GOK G) (hX : n_PX w L xs) (hT : n_PS w) (i : Int32) (M M1 M2 : nM) (v : Int32) (r : nR) (hb1 : n_ib L (i + (1 : Int32)) = true) (hb2 : n_ib L (i + (2 : Int32)) = true) (h1 : fX11_hats N (xs (i + (1 : Int32)).toNatClampNeg) (xs (i + (2 : Int32)).toNatClampNeg) M = some (v, M1)) (h2 : fX12_hats N (xs (i + (1 : Int32)).toNatClampNeg) (xs (i + (2 : Int32)).toNatClampNeg) M1 = some (v, M2)) (h3 : n_Lw l w nm 1675 i (G, M2) r) : n_Lw l w nm 1317 i (G, M) r :=
  n_seg (fin := fun r => r) (K := [(1675, fun lv st M => n_lS 0 lv 0 (n_lC 1 lv 1 (n_lC 107 lv 2 (n_lI lv 3 (fun x3 => n_pE st (n_one i M2 r x3 M))))))]) 31 (ia_hats N hG hX hT) (n_kc (fun lv st M' r' k => by
    obtain ⟨e0, k0⟩ := n_lS_x k
    obtain ⟨e1, k1⟩ := n_lC_x k0
    obtain ⟨e2, k2⟩ := n_lC_x k1
    obtain ⟨x3, e3, k3⟩ := n_lI_x k2
    obtain ⟨rfl, k4⟩ := n_pE_x k3
    exact n_sub (n_qc e0 (n_qc e1 (n_qc e2 (n_qc e3 n_qe)))) (by obtain ⟨rfl, rfl, rfl⟩ := n_one_x k4; exact h3)) n_ke) (F := fl_hats N G L xs (n_one i M2 r) i M) (by rfl) (by
    unfold fl_hats
    simp only [hb1, hb2, n_chk, h1, h2, Option.bind_some, ↓reduceIte, n_one_at])
noncomputable abbrev al_mirror (N : Nat) (G : nG) (L : Nat) (xs : Nat → Int32) : List (Nat × nO nR) := [(1350, o_aload 1 1351), (1351, o_aloadS 0 1352), (1352, o_iload 3 1353), (1353, o_push (.int (1 : Int32)) 1354), (1354, o_iadd 1355), (1355, o_sald L xs 1356), (1356, o_aloadS 0 1357), (1357, o_iload 3 1358), (1358, o_push (.int (2 : Int32)) 1359), (1359, o_iadd 1360), (1360, o_sald L xs 1361), (1361, o_callVc 1 2 (hX11_mirror G) 1364), (1364, o_aload 2 1365), (1365, o_aloadS 0 1366), (1366, o_iload 3 1367), (1367, o_push (.int (1 : Int32)) 1368), (1368, o_iadd 1369), (1369, o_sald L xs 1370), (1370, o_aloadS 0 1371), (1371, o_iload 3 1372), (1372, o_push (.int (2 : Int32)) 1373), (1373, o_iadd 1374), (1374, o_sald L xs 1375), (1375, o_callVc 107 2 (hX12_mirror) 1378), (1378, oc_eq 1675 1381), (1381, o_push (.int (0 : Int32)) 1382), (1382, o_no)]
set_option maxRecDepth 200000 in
theorem ia_mirror {l : Launch} {w : nW} {nm : String} {G : nG} {L : Nat} {xs : Nat → Int32} (N : Nat) (hG : n_GOK G) (hX : n_PX w L xs) (hT : n_PS w) : n_AllS l w 530 (n_mlaw nm) G (fun r => r) (al_mirror N G L xs) :=
  n_c (s_aload_n (μ := n_mlaw nm) (pc := 1350) (k := 1) dl_1350) <|
  n_c (s_aloadS (μ := n_mlaw nm) (pc := 1351) (k := 0) dl_1351) <|
  n_c (s_iload_n (μ := n_mlaw nm) (pc := 1352) (k := 3) dl_1352) <|
  n_c (s_iconst (μ := n_mlaw nm) (pc := 1353) (n := 1) dl_1353 (by decide +kernel)) <|
  n_c (s_iadd (μ := n_mlaw nm) (pc := 1354) dl_1354) <|
  n_c (s_sald (μ := n_mlaw nm) (pc := 1355) hX dl_1355) <|
  n_c (s_aloadS (μ := n_mlaw nm) (pc := 1356) (k := 0) dl_1356) <|
  n_c (s_iload_n (μ := n_mlaw nm) (pc := 1357) (k := 3) dl_1357) <|
  n_c (s_iconst (μ := n_mlaw nm) (pc := 1358) (n := 2) dl_1358 (by decide +kernel)) <|
  n_c (s_iadd (μ := n_mlaw nm) (pc := 1359) dl_1359) <|
  n_c (s_sald (μ := n_mlaw nm) (pc := 1360) hX dl_1360) <|
  n_c (s_callVc (s_callV (μ := n_mlaw nm) (pc := 1361) (csX11_mirror hG) (by decide) okX11_mirror nok11 w_1303 w_1304 w_1302 dl_1361) (gk1 hG)) <|
  n_c (s_aload_n (μ := n_mlaw nm) (pc := 1364) (k := 2) dl_1364) <|
  n_c (s_aloadS (μ := n_mlaw nm) (pc := 1365) (k := 0) dl_1365) <|
  n_c (s_iload_n (μ := n_mlaw nm) (pc := 1366) (k := 3) dl_1366) <|
  n_c (s_iconst (μ := n_mlaw nm) (pc := 1367) (n := 1) dl_1367 (by decide +kernel)) <|
  n_c (s_iadd (μ := n_mlaw nm) (pc := 1368) dl_1368) <|
  n_c (s_sald (μ := n_mlaw nm) (pc := 1369) hX dl_1369) <|
  n_c (s_aloadS (μ := n_mlaw nm) (pc := 1370) (k := 0) dl_1370) <|
  n_c (s_iload_n (μ := n_mlaw nm) (pc := 1371) (k := 3) dl_1371) <|
  n_c (s_iconst (μ := n_mlaw nm) (pc := 1372) (n := 2) dl_1372 (by decide +kernel)) <|
  n_c (s_iadd (μ := n_mlaw nm) (pc := 1373) dl_1373) <|
  n_c (s_sald (μ := n_mlaw nm) (pc := 1374) hX dl_1374) <|
  n_c (s_callVc (s_callV (μ := n_mlaw nm) (pc := 1375) (csX12_mirror hG) (by decide) okX12_mirror nok12 w_2110 w_2111 w_2109 dl_1375) (gk107 hG)) <|
  n_c (s_icmp_eq (μ := n_mlaw nm) (pc := 1378) (off := 297) dl_1378 (by decide +kernel)) <|
  n_c (s_iconst (μ := n_mlaw nm) (pc := 1381) (n := 0) dl_1381 (by decide +kernel)) <|
  n_c (s_no) <|
  n_e
noncomputable def fl_mirror (N : Nat) (G : nG) (L : Nat) (xs : Nat → Int32) (kk : Int32 → nM → Option nR) (x3 : Int32) (M : nM) : Option nR :=
  n_chk (n_ib L (x3 + (1 : Int32))) <|
  n_chk (n_ib L (x3 + (2 : Int32))) <|
  (fX11_mirror G (xs (x3 + (1 : Int32)).toNatClampNeg) (xs (x3 + (2 : Int32)).toNatClampNeg) M).bind fun p =>
  n_chk (n_ib L (x3 + (1 : Int32))) <|
  n_chk (n_ib L (x3 + (2 : Int32))) <|
  (fX12_mirror (xs (x3 + (1 : Int32)).toNatClampNeg) (xs (x3 + (2 : Int32)).toNatClampNeg) p.2).bind fun q =>
  if p.1 = q.1 then kk x3 q.2 else none
set_option maxRecDepth 200000 in
theorem lc_mirror {l : Launch} {w : nW} {nm : String} {G : nG} {L : Nat} {xs : Nat → Int32} (N : Nat) (hG : n_GOK G) (hX : n_PX w L xs) (hT : n_PS w) (i : Int32) (M M1 M2 : nM) (v : Int32) (r : nR) (hb1 : n_ib L (i + (1 : Int32)) = true) (hb2 : n_ib L (i + (2 : Int32)) = true) (h1 : fX11_mirror G (xs (i + (1 : Int32)).toNatClampNeg) (xs (i + (2 : Int32)).toNatClampNeg) M = some (v, M1)) (h2 : fX12_mirror (xs (i + (1 : Int32)).toNatClampNeg) (xs (i + (2 : Int32)).toNatClampNeg) M1 = some (v, M2)) (h3 : n_Lw l w nm 1675 i (G, M2) r) : n_Lw l w nm 1350 i (G, M) r :=
  n_seg (fin := fun r => r) (K := [(1675, fun lv st M => n_lS 0 lv 0 (n_lC 1 lv 1 (n_lC 107 lv 2 (n_lI lv 3 (fun x3 => n_pE st (n_one i M2 r x3 M))))))]) 31 (ia_mirror N hG hX hT) (n_kc (fun lv st M' r' k => by
    obtain ⟨e0, k0⟩ := n_lS_x k
    obtain ⟨e1, k1⟩ := n_lC_x k0
    obtain ⟨e2, k2⟩ := n_lC_x k1
    obtain ⟨x3, e3, k3⟩ := n_lI_x k2
    obtain ⟨rfl, k4⟩ := n_pE_x k3
    exact n_sub (n_qc e0 (n_qc e1 (n_qc e2 (n_qc e3 n_qe)))) (by obtain ⟨rfl, rfl, rfl⟩ := n_one_x k4; exact h3)) n_ke) (F := fl_mirror N G L xs (n_one i M2 r) i M) (by rfl) (by
    unfold fl_mirror
    simp only [hb1, hb2, n_chk, h1, h2, Option.bind_some, ↓reduceIte, n_one_at])
noncomputable abbrev al_glance (N : Nat) (G : nG) (L : Nat) (xs : Nat → Int32) : List (Nat × nO nR) := [(1383, o_aload 1 1384), (1384, o_aloadS 0 1385), (1385, o_iload 3 1386), (1386, o_push (.int (1 : Int32)) 1387), (1387, o_iadd 1388), (1388, o_sald L xs 1389), (1389, o_aloadS 0 1390), (1390, o_iload 3 1391), (1391, o_push (.int (2 : Int32)) 1392), (1392, o_iadd 1393), (1393, o_sald L xs 1394), (1394, o_callVc 1 2 (hX11_glance N) 1397), (1397, o_aload 2 1398), (1398, o_aloadS 0 1399), (1399, o_iload 3 1400), (1400, o_push (.int (1 : Int32)) 1401), (1401, o_iadd 1402), (1402, o_sald L xs 1403), (1403, o_aloadS 0 1404), (1404, o_iload 3 1405), (1405, o_push (.int (2 : Int32)) 1406), (1406, o_iadd 1407), (1407, o_sald L xs 1408), (1408, o_callVc 107 2 (hX12_glance N) 1411), (1411, oc_eq 1675 1414), (1414, o_push (.int (0 : Int32)) 1415), (1415, o_no)]
set_option maxRecDepth 200000 in
theorem ia_glance {l : Launch} {w : nW} {nm : String} {G : nG} {L : Nat} {xs : Nat → Int32} (N : Nat) (hG : n_GOK G) (hX : n_PX w L xs) (hT : n_PS w) : n_AllS l w 530 (n_mlaw nm) G (fun r => r) (al_glance N G L xs) :=
  n_c (s_aload_n (μ := n_mlaw nm) (pc := 1383) (k := 1) dl_1383) <|
  n_c (s_aloadS (μ := n_mlaw nm) (pc := 1384) (k := 0) dl_1384) <|
  n_c (s_iload_n (μ := n_mlaw nm) (pc := 1385) (k := 3) dl_1385) <|
  n_c (s_iconst (μ := n_mlaw nm) (pc := 1386) (n := 1) dl_1386 (by decide +kernel)) <|
  n_c (s_iadd (μ := n_mlaw nm) (pc := 1387) dl_1387) <|
  n_c (s_sald (μ := n_mlaw nm) (pc := 1388) hX dl_1388) <|
  n_c (s_aloadS (μ := n_mlaw nm) (pc := 1389) (k := 0) dl_1389) <|
  n_c (s_iload_n (μ := n_mlaw nm) (pc := 1390) (k := 3) dl_1390) <|
  n_c (s_iconst (μ := n_mlaw nm) (pc := 1391) (n := 2) dl_1391 (by decide +kernel)) <|
  n_c (s_iadd (μ := n_mlaw nm) (pc := 1392) dl_1392) <|
  n_c (s_sald (μ := n_mlaw nm) (pc := 1393) hX dl_1393) <|
  n_c (s_callVc (s_callV (μ := n_mlaw nm) (pc := 1394) (csX11_glance N hG) (by decide) okX11_glance nok11 w_1307 w_1308 w_1306 dl_1394) (gk1 hG)) <|
  n_c (s_aload_n (μ := n_mlaw nm) (pc := 1397) (k := 2) dl_1397) <|
  n_c (s_aloadS (μ := n_mlaw nm) (pc := 1398) (k := 0) dl_1398) <|
  n_c (s_iload_n (μ := n_mlaw nm) (pc := 1399) (k := 3) dl_1399) <|
  n_c (s_iconst (μ := n_mlaw nm) (pc := 1400) (n := 1) dl_1400 (by decide +kernel)) <|
  n_c (s_iadd (μ := n_mlaw nm) (pc := 1401) dl_1401) <|
  n_c (s_sald (μ := n_mlaw nm) (pc := 1402) hX dl_1402) <|
  n_c (s_aloadS (μ := n_mlaw nm) (pc := 1403) (k := 0) dl_1403) <|
  n_c (s_iload_n (μ := n_mlaw nm) (pc := 1404) (k := 3) dl_1404) <|
  n_c (s_iconst (μ := n_mlaw nm) (pc := 1405) (n := 2) dl_1405 (by decide +kernel)) <|
  n_c (s_iadd (μ := n_mlaw nm) (pc := 1406) dl_1406) <|
  n_c (s_sald (μ := n_mlaw nm) (pc := 1407) hX dl_1407) <|
  n_c (s_callVc (s_callV (μ := n_mlaw nm) (pc := 1408) (csX12_glance N hG) (by decide) okX12_glance nok12 w_2114 w_2115 w_2113 dl_1408) (gk107 hG)) <|
  n_c (s_icmp_eq (μ := n_mlaw nm) (pc := 1411) (off := 264) dl_1411 (by decide +kernel)) <|
  n_c (s_iconst (μ := n_mlaw nm) (pc := 1414) (n := 0) dl_1414 (by decide +kernel)) <|
  n_c (s_no) <|
  n_e
noncomputable def fl_glance (N : Nat) (G : nG) (L : Nat) (xs : Nat → Int32) (kk : Int32 → nM → Option nR) (x3 : Int32) (M : nM) : Option nR :=
  n_chk (n_ib L (x3 + (1 : Int32))) <|
  n_chk (n_ib L (x3 + (2 : Int32))) <|
  (fX11_glance N (xs (x3 + (1 : Int32)).toNatClampNeg) (xs (x3 + (2 : Int32)).toNatClampNeg) M).bind fun p =>
  n_chk (n_ib L (x3 + (1 : Int32))) <|
  n_chk (n_ib L (x3 + (2 : Int32))) <|
  (fX12_glance N (xs (x3 + (1 : Int32)).toNatClampNeg) (xs (x3 + (2 : Int32)).toNatClampNeg) p.2).bind fun q =>
  if p.1 = q.1 then kk x3 q.2 else none
set_option maxRecDepth 200000 in
theorem lc_glance {l : Launch} {w : nW} {nm : String} {G : nG} {L : Nat} {xs : Nat → Int32} (N : Nat) (hG : n_GOK G) (hX : n_PX w L xs) (hT : n_PS w) (i : Int32) (M M1 M2 : nM) (v : Int32) (r : nR) (hb1 : n_ib L (i + (1 : Int32)) = true) (hb2 : n_ib L (i + (2 : Int32)) = true) (h1 : fX11_glance N (xs (i + (1 : Int32)).toNatClampNeg) (xs (i + (2 : Int32)).toNatClampNeg) M = some (v, M1)) (h2 : fX12_glance N (xs (i + (1 : Int32)).toNatClampNeg) (xs (i + (2 : Int32)).toNatClampNeg) M1 = some (v, M2)) (h3 : n_Lw l w nm 1675 i (G, M2) r) : n_Lw l w nm 1383 i (G, M) r :=
  n_seg (fin := fun r => r) (K := [(1675, fun lv st M => n_lS 0 lv 0 (n_lC 1 lv 1 (n_lC 107 lv 2 (n_lI lv 3 (fun x3 => n_pE st (n_one i M2 r x3 M))))))]) 31 (ia_glance N hG hX hT) (n_kc (fun lv st M' r' k => by
    obtain ⟨e0, k0⟩ := n_lS_x k
    obtain ⟨e1, k1⟩ := n_lC_x k0
    obtain ⟨e2, k2⟩ := n_lC_x k1
    obtain ⟨x3, e3, k3⟩ := n_lI_x k2
    obtain ⟨rfl, k4⟩ := n_pE_x k3
    exact n_sub (n_qc e0 (n_qc e1 (n_qc e2 (n_qc e3 n_qe)))) (by obtain ⟨rfl, rfl, rfl⟩ := n_one_x k4; exact h3)) n_ke) (F := fl_glance N G L xs (n_one i M2 r) i M) (by rfl) (by
    unfold fl_glance
    simp only [hb1, hb2, n_chk, h1, h2, Option.bind_some, ↓reduceIte, n_one_at])
noncomputable abbrev al_clue (N : Nat) (G : nG) (L : Nat) (xs : Nat → Int32) : List (Nat × nO nR) := [(1416, o_aload 1 1417), (1417, o_aloadS 0 1418), (1418, o_iload 3 1419), (1419, o_push (.int (1 : Int32)) 1420), (1420, o_iadd 1421), (1421, o_sald L xs 1422), (1422, o_aloadS 0 1423), (1423, o_iload 3 1424), (1424, o_push (.int (2 : Int32)) 1425), (1425, o_iadd 1426), (1426, o_sald L xs 1427), (1427, o_aloadS 0 1428), (1428, o_iload 3 1429), (1429, o_push (.int (3 : Int32)) 1430), (1430, o_iadd 1431), (1431, o_sald L xs 1432), (1432, oi_eq 1439 1435), (1435, o_push (.int (1 : Int32)) 1436), (1436, o_goto 1440), (1439, o_push (.int (0 : Int32)) 1440), (1440, o_callVc 1 3 (hX11_clue G) 1443), (1443, o_aload 2 1444), (1444, o_aloadS 0 1445), (1445, o_iload 3 1446), (1446, o_push (.int (1 : Int32)) 1447), (1447, o_iadd 1448), (1448, o_sald L xs 1449), (1449, o_aloadS 0 1450), (1450, o_iload 3 1451), (1451, o_push (.int (2 : Int32)) 1452), (1452, o_iadd 1453), (1453, o_sald L xs 1454), (1454, o_aloadS 0 1455), (1455, o_iload 3 1456), (1456, o_push (.int (3 : Int32)) 1457), (1457, o_iadd 1458), (1458, o_sald L xs 1459), (1459, oi_eq 1466 1462), (1462, o_push (.int (1 : Int32)) 1463), (1463, o_goto 1467), (1466, o_push (.int (0 : Int32)) 1467), (1467, o_callVc 107 3 (hX12_clue) 1470), (1470, oc_eq 1675 1473), (1473, o_push (.int (0 : Int32)) 1474), (1474, o_no)]
set_option maxRecDepth 200000 in
theorem ia_clue {l : Launch} {w : nW} {nm : String} {G : nG} {L : Nat} {xs : Nat → Int32} (N : Nat) (hG : n_GOK G) (hX : n_PX w L xs) (hT : n_PS w) : n_AllS l w 530 (n_mlaw nm) G (fun r => r) (al_clue N G L xs) :=
  n_c (s_aload_n (μ := n_mlaw nm) (pc := 1416) (k := 1) dl_1416) <|
  n_c (s_aloadS (μ := n_mlaw nm) (pc := 1417) (k := 0) dl_1417) <|
  n_c (s_iload_n (μ := n_mlaw nm) (pc := 1418) (k := 3) dl_1418) <|
  n_c (s_iconst (μ := n_mlaw nm) (pc := 1419) (n := 1) dl_1419 (by decide +kernel)) <|
  n_c (s_iadd (μ := n_mlaw nm) (pc := 1420) dl_1420) <|
  n_c (s_sald (μ := n_mlaw nm) (pc := 1421) hX dl_1421) <|
  n_c (s_aloadS (μ := n_mlaw nm) (pc := 1422) (k := 0) dl_1422) <|
  n_c (s_iload_n (μ := n_mlaw nm) (pc := 1423) (k := 3) dl_1423) <|
  n_c (s_iconst (μ := n_mlaw nm) (pc := 1424) (n := 2) dl_1424 (by decide +kernel)) <|
  n_c (s_iadd (μ := n_mlaw nm) (pc := 1425) dl_1425) <|
  n_c (s_sald (μ := n_mlaw nm) (pc := 1426) hX dl_1426) <|
  n_c (s_aloadS (μ := n_mlaw nm) (pc := 1427) (k := 0) dl_1427) <|
  n_c (s_iload_n (μ := n_mlaw nm) (pc := 1428) (k := 3) dl_1428) <|
  n_c (s_iconst (μ := n_mlaw nm) (pc := 1429) (n := 3) dl_1429 (by decide +kernel)) <|
  n_c (s_iadd (μ := n_mlaw nm) (pc := 1430) dl_1430) <|
  n_c (s_sald (μ := n_mlaw nm) (pc := 1431) hX dl_1431) <|
  n_c (s_if_eq (μ := n_mlaw nm) (pc := 1432) (off := 7) dl_1432 (by decide +kernel)) <|
  n_c (s_iconst (μ := n_mlaw nm) (pc := 1435) (n := 1) dl_1435 (by decide +kernel)) <|
  n_c (s_goto (μ := n_mlaw nm) (pc := 1436) (off := 4) dl_1436 (by decide +kernel)) <|
  n_c (s_iconst (μ := n_mlaw nm) (pc := 1439) (n := 0) dl_1439 (by decide +kernel)) <|
  n_c (s_callVc (s_callV (μ := n_mlaw nm) (pc := 1440) (csX11_clue hG) (by decide) okX11_clue nok11 w_1318 w_1319 w_1317 dl_1440) (gk1 hG)) <|
  n_c (s_aload_n (μ := n_mlaw nm) (pc := 1443) (k := 2) dl_1443) <|
  n_c (s_aloadS (μ := n_mlaw nm) (pc := 1444) (k := 0) dl_1444) <|
  n_c (s_iload_n (μ := n_mlaw nm) (pc := 1445) (k := 3) dl_1445) <|
  n_c (s_iconst (μ := n_mlaw nm) (pc := 1446) (n := 1) dl_1446 (by decide +kernel)) <|
  n_c (s_iadd (μ := n_mlaw nm) (pc := 1447) dl_1447) <|
  n_c (s_sald (μ := n_mlaw nm) (pc := 1448) hX dl_1448) <|
  n_c (s_aloadS (μ := n_mlaw nm) (pc := 1449) (k := 0) dl_1449) <|
  n_c (s_iload_n (μ := n_mlaw nm) (pc := 1450) (k := 3) dl_1450) <|
  n_c (s_iconst (μ := n_mlaw nm) (pc := 1451) (n := 2) dl_1451 (by decide +kernel)) <|
  n_c (s_iadd (μ := n_mlaw nm) (pc := 1452) dl_1452) <|
  n_c (s_sald (μ := n_mlaw nm) (pc := 1453) hX dl_1453) <|
  n_c (s_aloadS (μ := n_mlaw nm) (pc := 1454) (k := 0) dl_1454) <|
  n_c (s_iload_n (μ := n_mlaw nm) (pc := 1455) (k := 3) dl_1455) <|
  n_c (s_iconst (μ := n_mlaw nm) (pc := 1456) (n := 3) dl_1456 (by decide +kernel)) <|
  n_c (s_iadd (μ := n_mlaw nm) (pc := 1457) dl_1457) <|
  n_c (s_sald (μ := n_mlaw nm) (pc := 1458) hX dl_1458) <|
  n_c (s_if_eq (μ := n_mlaw nm) (pc := 1459) (off := 7) dl_1459 (by decide +kernel)) <|
  n_c (s_iconst (μ := n_mlaw nm) (pc := 1462) (n := 1) dl_1462 (by decide +kernel)) <|
  n_c (s_goto (μ := n_mlaw nm) (pc := 1463) (off := 4) dl_1463 (by decide +kernel)) <|
  n_c (s_iconst (μ := n_mlaw nm) (pc := 1466) (n := 0) dl_1466 (by decide +kernel)) <|
  n_c (s_callVc (s_callV (μ := n_mlaw nm) (pc := 1467) (csX12_clue hG) (by decide) okX12_clue nok12 w_2122 w_2123 w_2121 dl_1467) (gk107 hG)) <|
  n_c (s_icmp_eq (μ := n_mlaw nm) (pc := 1470) (off := 205) dl_1470 (by decide +kernel)) <|
  n_c (s_iconst (μ := n_mlaw nm) (pc := 1473) (n := 0) dl_1473 (by decide +kernel)) <|
  n_c (s_no) <|
  n_e
noncomputable def fl_clue (N : Nat) (G : nG) (L : Nat) (xs : Nat → Int32) (kk : Int32 → nM → Option nR) (x3 : Int32) (M : nM) : Option nR :=
  n_chk (n_ib L (x3 + (1 : Int32))) <|
  n_chk (n_ib L (x3 + (2 : Int32))) <|
  n_chk (n_ib L (x3 + (3 : Int32))) <|
  if (xs (x3 + (3 : Int32)).toNatClampNeg) = 0 then
    (fX11_clue G (xs (x3 + (1 : Int32)).toNatClampNeg) (xs (x3 + (2 : Int32)).toNatClampNeg) (0 : Int32) M).bind fun p =>
    n_chk (n_ib L (x3 + (1 : Int32))) <|
    n_chk (n_ib L (x3 + (2 : Int32))) <|
    n_chk (n_ib L (x3 + (3 : Int32))) <|
    if (xs (x3 + (3 : Int32)).toNatClampNeg) = 0 then
      (fX12_clue (xs (x3 + (1 : Int32)).toNatClampNeg) (xs (x3 + (2 : Int32)).toNatClampNeg) (0 : Int32) p.2).bind fun q =>
      if p.1 = q.1 then kk x3 q.2 else none
    else
      (fX12_clue (xs (x3 + (1 : Int32)).toNatClampNeg) (xs (x3 + (2 : Int32)).toNatClampNeg) (1 : Int32) p.2).bind fun q =>
      if p.1 = q.1 then kk x3 q.2 else none
  else
    (fX11_clue G (xs (x3 + (1 : Int32)).toNatClampNeg) (xs (x3 + (2 : Int32)).toNatClampNeg) (1 : Int32) M).bind fun p =>
    n_chk (n_ib L (x3 + (1 : Int32))) <|
    n_chk (n_ib L (x3 + (2 : Int32))) <|
    n_chk (n_ib L (x3 + (3 : Int32))) <|
    if (xs (x3 + (3 : Int32)).toNatClampNeg) = 0 then
      (fX12_clue (xs (x3 + (1 : Int32)).toNatClampNeg) (xs (x3 + (2 : Int32)).toNatClampNeg) (0 : Int32) p.2).bind fun q =>
      if p.1 = q.1 then kk x3 q.2 else none
    else
      (fX12_clue (xs (x3 + (1 : Int32)).toNatClampNeg) (xs (x3 + (2 : Int32)).toNatClampNeg) (1 : Int32) p.2).bind fun q =>
      if p.1 = q.1 then kk x3 q.2 else none
set_option maxRecDepth 200000 in
theorem lc_clue {l : Launch} {w : nW} {nm : String} {G : nG} {L : Nat} {xs : Nat → Int32} (N : Nat) (hG : n_GOK G) (hX : n_PX w L xs) (hT : n_PS w) (i : Int32) (M M1 M2 : nM) (v : Int32) (r : nR) (hb1 : n_ib L (i + (1 : Int32)) = true) (hb2 : n_ib L (i + (2 : Int32)) = true) (hb3 : n_ib L (i + (3 : Int32)) = true) (h1 : fX11_clue G (xs (i + (1 : Int32)).toNatClampNeg) (xs (i + (2 : Int32)).toNatClampNeg) (if (xs (i + (3 : Int32)).toNatClampNeg) = 0 then 0 else 1) M = some (v, M1)) (h2 : fX12_clue (xs (i + (1 : Int32)).toNatClampNeg) (xs (i + (2 : Int32)).toNatClampNeg) (if (xs (i + (3 : Int32)).toNatClampNeg) = 0 then 0 else 1) M1 = some (v, M2)) (h3 : n_Lw l w nm 1675 i (G, M2) r) : n_Lw l w nm 1416 i (G, M) r :=
  n_seg (fin := fun r => r) (K := [(1675, fun lv st M => n_lS 0 lv 0 (n_lC 1 lv 1 (n_lC 107 lv 2 (n_lI lv 3 (fun x3 => n_pE st (n_one i M2 r x3 M))))))]) 49 (ia_clue N hG hX hT) (n_kc (fun lv st M' r' k => by
    obtain ⟨e0, k0⟩ := n_lS_x k
    obtain ⟨e1, k1⟩ := n_lC_x k0
    obtain ⟨e2, k2⟩ := n_lC_x k1
    obtain ⟨x3, e3, k3⟩ := n_lI_x k2
    obtain ⟨rfl, k4⟩ := n_pE_x k3
    exact n_sub (n_qc e0 (n_qc e1 (n_qc e2 (n_qc e3 n_qe)))) (by obtain ⟨rfl, rfl, rfl⟩ := n_one_x k4; exact h3)) n_ke) (F := fl_clue N G L xs (n_one i M2 r) i M) (by rfl) (by
    unfold fl_clue
    by_cases hz : (xs (i + (3 : Int32)).toNatClampNeg) = 0
    · simp only [hz, ↓reduceIte] at h1 h2 ⊢
      simp only [hb1, hb2, hb3, n_chk, h1, h2, Option.bind_some, ↓reduceIte, n_one_at]
    · simp only [hz, ↓reduceIte] at h1 h2 ⊢
      simp only [hb1, hb2, hb3, n_chk, h1, h2, Option.bind_some, ↓reduceIte, n_one_at]
    )
noncomputable abbrev al_fits (N : Nat) (G : nG) (L : Nat) (xs : Nat → Int32) : List (Nat × nO nR) := [(1475, o_aload 1 1476), (1476, o_aloadS 0 1477), (1477, o_iload 3 1478), (1478, o_push (.int (1 : Int32)) 1479), (1479, o_iadd 1480), (1480, o_sald L xs 1481), (1481, o_callVc 1 1 (hX11_fits N G) 1484), (1484, o_aload 2 1485), (1485, o_aloadS 0 1486), (1486, o_iload 3 1487), (1487, o_push (.int (1 : Int32)) 1488), (1488, o_iadd 1489), (1489, o_sald L xs 1490), (1490, o_callVc 107 1 (hX12_fits N) 1493), (1493, oc_eq 1675 1496), (1496, o_push (.int (0 : Int32)) 1497), (1497, o_no)]
set_option maxRecDepth 200000 in
theorem ia_fits {l : Launch} {w : nW} {nm : String} {G : nG} {L : Nat} {xs : Nat → Int32} (N : Nat) (hG : n_GOK G) (hX : n_PX w L xs) (hT : n_PS w) : n_AllS l w 530 (n_mlaw nm) G (fun r => r) (al_fits N G L xs) :=
  n_c (s_aload_n (μ := n_mlaw nm) (pc := 1475) (k := 1) dl_1475) <|
  n_c (s_aloadS (μ := n_mlaw nm) (pc := 1476) (k := 0) dl_1476) <|
  n_c (s_iload_n (μ := n_mlaw nm) (pc := 1477) (k := 3) dl_1477) <|
  n_c (s_iconst (μ := n_mlaw nm) (pc := 1478) (n := 1) dl_1478 (by decide +kernel)) <|
  n_c (s_iadd (μ := n_mlaw nm) (pc := 1479) dl_1479) <|
  n_c (s_sald (μ := n_mlaw nm) (pc := 1480) hX dl_1480) <|
  n_c (s_callVc (s_callV (μ := n_mlaw nm) (pc := 1481) (csX11_fits N hG) (by decide) okX11_fits nok11 w_1322 w_1323 w_1321 dl_1481) (gk1 hG)) <|
  n_c (s_aload_n (μ := n_mlaw nm) (pc := 1484) (k := 2) dl_1484) <|
  n_c (s_aloadS (μ := n_mlaw nm) (pc := 1485) (k := 0) dl_1485) <|
  n_c (s_iload_n (μ := n_mlaw nm) (pc := 1486) (k := 3) dl_1486) <|
  n_c (s_iconst (μ := n_mlaw nm) (pc := 1487) (n := 1) dl_1487 (by decide +kernel)) <|
  n_c (s_iadd (μ := n_mlaw nm) (pc := 1488) dl_1488) <|
  n_c (s_sald (μ := n_mlaw nm) (pc := 1489) hX dl_1489) <|
  n_c (s_callVc (s_callV (μ := n_mlaw nm) (pc := 1490) (csX12_fits N hG) (by decide) okX12_fits nok12 w_2126 w_2127 w_2125 dl_1490) (gk107 hG)) <|
  n_c (s_icmp_eq (μ := n_mlaw nm) (pc := 1493) (off := 182) dl_1493 (by decide +kernel)) <|
  n_c (s_iconst (μ := n_mlaw nm) (pc := 1496) (n := 0) dl_1496 (by decide +kernel)) <|
  n_c (s_no) <|
  n_e
noncomputable def fl_fits (N : Nat) (G : nG) (L : Nat) (xs : Nat → Int32) (kk : Int32 → nM → Option nR) (x3 : Int32) (M : nM) : Option nR :=
  n_chk (n_ib L (x3 + (1 : Int32))) <|
  (fX11_fits N G (xs (x3 + (1 : Int32)).toNatClampNeg) M).bind fun p =>
  n_chk (n_ib L (x3 + (1 : Int32))) <|
  (fX12_fits N (xs (x3 + (1 : Int32)).toNatClampNeg) p.2).bind fun q =>
  if p.1 = q.1 then kk x3 q.2 else none
set_option maxRecDepth 200000 in
theorem lc_fits {l : Launch} {w : nW} {nm : String} {G : nG} {L : Nat} {xs : Nat → Int32} (N : Nat) (hG : n_GOK G) (hX : n_PX w L xs) (hT : n_PS w) (i : Int32) (M M1 M2 : nM) (v : Int32) (r : nR) (hb1 : n_ib L (i + (1 : Int32)) = true) (h1 : fX11_fits N G (xs (i + (1 : Int32)).toNatClampNeg) M = some (v, M1)) (h2 : fX12_fits N (xs (i + (1 : Int32)).toNatClampNeg) M1 = some (v, M2)) (h3 : n_Lw l w nm 1675 i (G, M2) r) : n_Lw l w nm 1475 i (G, M) r :=
  n_seg (fin := fun r => r) (K := [(1675, fun lv st M => n_lS 0 lv 0 (n_lC 1 lv 1 (n_lC 107 lv 2 (n_lI lv 3 (fun x3 => n_pE st (n_one i M2 r x3 M))))))]) 21 (ia_fits N hG hX hT) (n_kc (fun lv st M' r' k => by
    obtain ⟨e0, k0⟩ := n_lS_x k
    obtain ⟨e1, k1⟩ := n_lC_x k0
    obtain ⟨e2, k2⟩ := n_lC_x k1
    obtain ⟨x3, e3, k3⟩ := n_lI_x k2
    obtain ⟨rfl, k4⟩ := n_pE_x k3
    exact n_sub (n_qc e0 (n_qc e1 (n_qc e2 (n_qc e3 n_qe)))) (by obtain ⟨rfl, rfl, rfl⟩ := n_one_x k4; exact h3)) n_ke) (F := fl_fits N G L xs (n_one i M2 r) i M) (by rfl) (by
    unfold fl_fits
    simp only [hb1, n_chk, h1, h2, Option.bind_some, ↓reduceIte, n_one_at])
noncomputable abbrev al_share (N : Nat) (G : nG) (L : Nat) (xs : Nat → Int32) : List (Nat × nO nR) := [(1498, o_aload 1 1499), (1499, o_aloadS 0 1500), (1500, o_iload 3 1501), (1501, o_push (.int (1 : Int32)) 1502), (1502, o_iadd 1503), (1503, o_sald L xs 1504), (1504, o_callVc 1 1 (hX11_share G) 1507), (1507, o_aload 2 1508), (1508, o_aloadS 0 1509), (1509, o_iload 3 1510), (1510, o_push (.int (1 : Int32)) 1511), (1511, o_iadd 1512), (1512, o_sald L xs 1513), (1513, o_callVc 107 1 (hX12_share) 1516), (1516, oc_eq 1675 1519), (1519, o_push (.int (0 : Int32)) 1520), (1520, o_no)]
set_option maxRecDepth 200000 in
theorem ia_share {l : Launch} {w : nW} {nm : String} {G : nG} {L : Nat} {xs : Nat → Int32} (N : Nat) (hG : n_GOK G) (hX : n_PX w L xs) (hT : n_PS w) : n_AllS l w 530 (n_mlaw nm) G (fun r => r) (al_share N G L xs) :=
  n_c (s_aload_n (μ := n_mlaw nm) (pc := 1498) (k := 1) dl_1498) <|
  n_c (s_aloadS (μ := n_mlaw nm) (pc := 1499) (k := 0) dl_1499) <|
  n_c (s_iload_n (μ := n_mlaw nm) (pc := 1500) (k := 3) dl_1500) <|
  n_c (s_iconst (μ := n_mlaw nm) (pc := 1501) (n := 1) dl_1501 (by decide +kernel)) <|
  n_c (s_iadd (μ := n_mlaw nm) (pc := 1502) dl_1502) <|
  n_c (s_sald (μ := n_mlaw nm) (pc := 1503) hX dl_1503) <|
  n_c (s_callVc (s_callV (μ := n_mlaw nm) (pc := 1504) (csX11_share hG) (by decide) okX11_share nok11 w_1340 w_1341 w_1339 dl_1504) (gk1 hG)) <|
  n_c (s_aload_n (μ := n_mlaw nm) (pc := 1507) (k := 2) dl_1507) <|
  n_c (s_aloadS (μ := n_mlaw nm) (pc := 1508) (k := 0) dl_1508) <|
  n_c (s_iload_n (μ := n_mlaw nm) (pc := 1509) (k := 3) dl_1509) <|
  n_c (s_iconst (μ := n_mlaw nm) (pc := 1510) (n := 1) dl_1510 (by decide +kernel)) <|
  n_c (s_iadd (μ := n_mlaw nm) (pc := 1511) dl_1511) <|
  n_c (s_sald (μ := n_mlaw nm) (pc := 1512) hX dl_1512) <|
  n_c (s_callVc (s_callV (μ := n_mlaw nm) (pc := 1513) (csX12_share hG) (by decide) okX12_share nok12 w_2138 w_2139 w_2137 dl_1513) (gk107 hG)) <|
  n_c (s_icmp_eq (μ := n_mlaw nm) (pc := 1516) (off := 159) dl_1516 (by decide +kernel)) <|
  n_c (s_iconst (μ := n_mlaw nm) (pc := 1519) (n := 0) dl_1519 (by decide +kernel)) <|
  n_c (s_no) <|
  n_e
noncomputable def fl_share (N : Nat) (G : nG) (L : Nat) (xs : Nat → Int32) (kk : Int32 → nM → Option nR) (x3 : Int32) (M : nM) : Option nR :=
  n_chk (n_ib L (x3 + (1 : Int32))) <|
  (fX11_share G (xs (x3 + (1 : Int32)).toNatClampNeg) M).bind fun p =>
  n_chk (n_ib L (x3 + (1 : Int32))) <|
  (fX12_share (xs (x3 + (1 : Int32)).toNatClampNeg) p.2).bind fun q =>
  if p.1 = q.1 then kk x3 q.2 else none
set_option maxRecDepth 200000 in
theorem lc_share {l : Launch} {w : nW} {nm : String} {G : nG} {L : Nat} {xs : Nat → Int32} (N : Nat) (hG : n_GOK G) (hX : n_PX w L xs) (hT : n_PS w) (i : Int32) (M M1 M2 : nM) (v : Int32) (r : nR) (hb1 : n_ib L (i + (1 : Int32)) = true) (h1 : fX11_share G (xs (i + (1 : Int32)).toNatClampNeg) M = some (v, M1)) (h2 : fX12_share (xs (i + (1 : Int32)).toNatClampNeg) M1 = some (v, M2)) (h3 : n_Lw l w nm 1675 i (G, M2) r) : n_Lw l w nm 1498 i (G, M) r :=
  n_seg (fin := fun r => r) (K := [(1675, fun lv st M => n_lS 0 lv 0 (n_lC 1 lv 1 (n_lC 107 lv 2 (n_lI lv 3 (fun x3 => n_pE st (n_one i M2 r x3 M))))))]) 21 (ia_share N hG hX hT) (n_kc (fun lv st M' r' k => by
    obtain ⟨e0, k0⟩ := n_lS_x k
    obtain ⟨e1, k1⟩ := n_lC_x k0
    obtain ⟨e2, k2⟩ := n_lC_x k1
    obtain ⟨x3, e3, k3⟩ := n_lI_x k2
    obtain ⟨rfl, k4⟩ := n_pE_x k3
    exact n_sub (n_qc e0 (n_qc e1 (n_qc e2 (n_qc e3 n_qe)))) (by obtain ⟨rfl, rfl, rfl⟩ := n_one_x k4; exact h3)) n_ke) (F := fl_share N G L xs (n_one i M2 r) i M) (by rfl) (by
    unfold fl_share
    simp only [hb1, n_chk, h1, h2, Option.bind_some, ↓reduceIte, n_one_at])
noncomputable abbrev al_gets (N : Nat) (G : nG) (L : Nat) (xs : Nat → Int32) : List (Nat × nO nR) := [(1521, o_aload 1 1522), (1522, o_aloadS 0 1523), (1523, o_iload 3 1524), (1524, o_push (.int (1 : Int32)) 1525), (1525, o_iadd 1526), (1526, o_sald L xs 1527), (1527, o_aloadS 0 1528), (1528, o_iload 3 1529), (1529, o_push (.int (2 : Int32)) 1530), (1530, o_iadd 1531), (1531, o_sald L xs 1532), (1532, o_callVc 1 2 (hX11_gets N G) 1535), (1535, o_aload 2 1536), (1536, o_aloadS 0 1537), (1537, o_iload 3 1538), (1538, o_push (.int (1 : Int32)) 1539), (1539, o_iadd 1540), (1540, o_sald L xs 1541), (1541, o_aloadS 0 1542), (1542, o_iload 3 1543), (1543, o_push (.int (2 : Int32)) 1544), (1544, o_iadd 1545), (1545, o_sald L xs 1546), (1546, o_callVc 107 2 (hX12_gets N) 1549), (1549, oc_eq 1675 1552), (1552, o_push (.int (0 : Int32)) 1553), (1553, o_no)]
set_option maxRecDepth 200000 in
theorem ia_gets {l : Launch} {w : nW} {nm : String} {G : nG} {L : Nat} {xs : Nat → Int32} (N : Nat) (hG : n_GOK G) (hX : n_PX w L xs) (hT : n_PS w) : n_AllS l w 530 (n_mlaw nm) G (fun r => r) (al_gets N G L xs) :=
  n_c (s_aload_n (μ := n_mlaw nm) (pc := 1521) (k := 1) dl_1521) <|
  n_c (s_aloadS (μ := n_mlaw nm) (pc := 1522) (k := 0) dl_1522) <|
  n_c (s_iload_n (μ := n_mlaw nm) (pc := 1523) (k := 3) dl_1523) <|
  n_c (s_iconst (μ := n_mlaw nm) (pc := 1524) (n := 1) dl_1524 (by decide +kernel)) <|
  n_c (s_iadd (μ := n_mlaw nm) (pc := 1525) dl_1525) <|
  n_c (s_sald (μ := n_mlaw nm) (pc := 1526) hX dl_1526) <|
  n_c (s_aloadS (μ := n_mlaw nm) (pc := 1527) (k := 0) dl_1527) <|
  n_c (s_iload_n (μ := n_mlaw nm) (pc := 1528) (k := 3) dl_1528) <|
  n_c (s_iconst (μ := n_mlaw nm) (pc := 1529) (n := 2) dl_1529 (by decide +kernel)) <|
  n_c (s_iadd (μ := n_mlaw nm) (pc := 1530) dl_1530) <|
  n_c (s_sald (μ := n_mlaw nm) (pc := 1531) hX dl_1531) <|
  n_c (s_callVc (s_callV (μ := n_mlaw nm) (pc := 1532) (csX11_gets N hG) (by decide) okX11_gets nok11 w_1344 w_1345 w_1343 dl_1532) (gk1 hG)) <|
  n_c (s_aload_n (μ := n_mlaw nm) (pc := 1535) (k := 2) dl_1535) <|
  n_c (s_aloadS (μ := n_mlaw nm) (pc := 1536) (k := 0) dl_1536) <|
  n_c (s_iload_n (μ := n_mlaw nm) (pc := 1537) (k := 3) dl_1537) <|
  n_c (s_iconst (μ := n_mlaw nm) (pc := 1538) (n := 1) dl_1538 (by decide +kernel)) <|
  n_c (s_iadd (μ := n_mlaw nm) (pc := 1539) dl_1539) <|
  n_c (s_sald (μ := n_mlaw nm) (pc := 1540) hX dl_1540) <|
  n_c (s_aloadS (μ := n_mlaw nm) (pc := 1541) (k := 0) dl_1541) <|
  n_c (s_iload_n (μ := n_mlaw nm) (pc := 1542) (k := 3) dl_1542) <|
  n_c (s_iconst (μ := n_mlaw nm) (pc := 1543) (n := 2) dl_1543 (by decide +kernel)) <|
  n_c (s_iadd (μ := n_mlaw nm) (pc := 1544) dl_1544) <|
  n_c (s_sald (μ := n_mlaw nm) (pc := 1545) hX dl_1545) <|
  n_c (s_callVc (s_callV (μ := n_mlaw nm) (pc := 1546) (csX12_gets N hG) (by decide) okX12_gets nok12 w_2142 w_2143 w_2141 dl_1546) (gk107 hG)) <|
  n_c (s_icmp_eq (μ := n_mlaw nm) (pc := 1549) (off := 126) dl_1549 (by decide +kernel)) <|
  n_c (s_iconst (μ := n_mlaw nm) (pc := 1552) (n := 0) dl_1552 (by decide +kernel)) <|
  n_c (s_no) <|
  n_e
noncomputable def fl_gets (N : Nat) (G : nG) (L : Nat) (xs : Nat → Int32) (kk : Int32 → nM → Option nR) (x3 : Int32) (M : nM) : Option nR :=
  n_chk (n_ib L (x3 + (1 : Int32))) <|
  n_chk (n_ib L (x3 + (2 : Int32))) <|
  (fX11_gets N G (xs (x3 + (1 : Int32)).toNatClampNeg) (xs (x3 + (2 : Int32)).toNatClampNeg) M).bind fun p =>
  n_chk (n_ib L (x3 + (1 : Int32))) <|
  n_chk (n_ib L (x3 + (2 : Int32))) <|
  (fX12_gets N (xs (x3 + (1 : Int32)).toNatClampNeg) (xs (x3 + (2 : Int32)).toNatClampNeg) p.2).bind fun q =>
  if p.1 = q.1 then kk x3 q.2 else none
set_option maxRecDepth 200000 in
theorem lc_gets {l : Launch} {w : nW} {nm : String} {G : nG} {L : Nat} {xs : Nat → Int32} (N : Nat) (hG : n_GOK G) (hX : n_PX w L xs) (hT : n_PS w) (i : Int32) (M M1 M2 : nM) (v : Int32) (r : nR) (hb1 : n_ib L (i + (1 : Int32)) = true) (hb2 : n_ib L (i + (2 : Int32)) = true) (h1 : fX11_gets N G (xs (i + (1 : Int32)).toNatClampNeg) (xs (i + (2 : Int32)).toNatClampNeg) M = some (v, M1)) (h2 : fX12_gets N (xs (i + (1 : Int32)).toNatClampNeg) (xs (i + (2 : Int32)).toNatClampNeg) M1 = some (v, M2)) (h3 : n_Lw l w nm 1675 i (G, M2) r) : n_Lw l w nm 1521 i (G, M) r :=
  n_seg (fin := fun r => r) (K := [(1675, fun lv st M => n_lS 0 lv 0 (n_lC 1 lv 1 (n_lC 107 lv 2 (n_lI lv 3 (fun x3 => n_pE st (n_one i M2 r x3 M))))))]) 31 (ia_gets N hG hX hT) (n_kc (fun lv st M' r' k => by
    obtain ⟨e0, k0⟩ := n_lS_x k
    obtain ⟨e1, k1⟩ := n_lC_x k0
    obtain ⟨e2, k2⟩ := n_lC_x k1
    obtain ⟨x3, e3, k3⟩ := n_lI_x k2
    obtain ⟨rfl, k4⟩ := n_pE_x k3
    exact n_sub (n_qc e0 (n_qc e1 (n_qc e2 (n_qc e3 n_qe)))) (by obtain ⟨rfl, rfl, rfl⟩ := n_one_x k4; exact h3)) n_ke) (F := fl_gets N G L xs (n_one i M2 r) i M) (by rfl) (by
    unfold fl_gets
    simp only [hb1, hb2, n_chk, h1, h2, Option.bind_some, ↓reduceIte, n_one_at])
noncomputable abbrev al_row (N : Nat) (G : nG) (L : Nat) (xs : Nat → Int32) : List (Nat × nO nR) := [(1554, o_aload 1 1555), (1555, o_aloadS 0 1556), (1556, o_iload 3 1557), (1557, o_push (.int (1 : Int32)) 1558), (1558, o_iadd 1559), (1559, o_sald L xs 1560), (1560, o_callVc 1 1 (hX11_row G) 1563), (1563, o_aload 2 1564), (1564, o_aloadS 0 1565), (1565, o_iload 3 1566), (1566, o_push (.int (1 : Int32)) 1567), (1567, o_iadd 1568), (1568, o_sald L xs 1569), (1569, o_callVc 107 1 (hX12_row) 1572), (1572, oc_eq 1675 1575), (1575, o_push (.int (0 : Int32)) 1576), (1576, o_no)]
set_option maxRecDepth 200000 in
theorem ia_row {l : Launch} {w : nW} {nm : String} {G : nG} {L : Nat} {xs : Nat → Int32} (N : Nat) (hG : n_GOK G) (hX : n_PX w L xs) (hT : n_PS w) : n_AllS l w 530 (n_mlaw nm) G (fun r => r) (al_row N G L xs) :=
  n_c (s_aload_n (μ := n_mlaw nm) (pc := 1554) (k := 1) dl_1554) <|
  n_c (s_aloadS (μ := n_mlaw nm) (pc := 1555) (k := 0) dl_1555) <|
  n_c (s_iload_n (μ := n_mlaw nm) (pc := 1556) (k := 3) dl_1556) <|
  n_c (s_iconst (μ := n_mlaw nm) (pc := 1557) (n := 1) dl_1557 (by decide +kernel)) <|
  n_c (s_iadd (μ := n_mlaw nm) (pc := 1558) dl_1558) <|
  n_c (s_sald (μ := n_mlaw nm) (pc := 1559) hX dl_1559) <|
  n_c (s_callVc (s_callV (μ := n_mlaw nm) (pc := 1560) (csX11_row hG) (by decide) okX11_row nok11 w_1352 w_1353 w_1351 dl_1560) (gk1 hG)) <|
  n_c (s_aload_n (μ := n_mlaw nm) (pc := 1563) (k := 2) dl_1563) <|
  n_c (s_aloadS (μ := n_mlaw nm) (pc := 1564) (k := 0) dl_1564) <|
  n_c (s_iload_n (μ := n_mlaw nm) (pc := 1565) (k := 3) dl_1565) <|
  n_c (s_iconst (μ := n_mlaw nm) (pc := 1566) (n := 1) dl_1566 (by decide +kernel)) <|
  n_c (s_iadd (μ := n_mlaw nm) (pc := 1567) dl_1567) <|
  n_c (s_sald (μ := n_mlaw nm) (pc := 1568) hX dl_1568) <|
  n_c (s_callVc (s_callV (μ := n_mlaw nm) (pc := 1569) (csX12_row hG) (by decide) okX12_row nok12 w_2146 w_2147 w_2145 dl_1569) (gk107 hG)) <|
  n_c (s_icmp_eq (μ := n_mlaw nm) (pc := 1572) (off := 103) dl_1572 (by decide +kernel)) <|
  n_c (s_iconst (μ := n_mlaw nm) (pc := 1575) (n := 0) dl_1575 (by decide +kernel)) <|
  n_c (s_no) <|
  n_e
noncomputable def fl_row (N : Nat) (G : nG) (L : Nat) (xs : Nat → Int32) (kk : Int32 → nM → Option nR) (x3 : Int32) (M : nM) : Option nR :=
  n_chk (n_ib L (x3 + (1 : Int32))) <|
  (fX11_row G (xs (x3 + (1 : Int32)).toNatClampNeg) M).bind fun p =>
  n_chk (n_ib L (x3 + (1 : Int32))) <|
  (fX12_row (xs (x3 + (1 : Int32)).toNatClampNeg) p.2).bind fun q =>
  if p.1 = q.1 then kk x3 q.2 else none
set_option maxRecDepth 200000 in
theorem lc_row {l : Launch} {w : nW} {nm : String} {G : nG} {L : Nat} {xs : Nat → Int32} (N : Nat) (hG : n_GOK G) (hX : n_PX w L xs) (hT : n_PS w) (i : Int32) (M M1 M2 : nM) (v : Int32) (r : nR) (hb1 : n_ib L (i + (1 : Int32)) = true) (h1 : fX11_row G (xs (i + (1 : Int32)).toNatClampNeg) M = some (v, M1)) (h2 : fX12_row (xs (i + (1 : Int32)).toNatClampNeg) M1 = some (v, M2)) (h3 : n_Lw l w nm 1675 i (G, M2) r) : n_Lw l w nm 1554 i (G, M) r :=
  n_seg (fin := fun r => r) (K := [(1675, fun lv st M => n_lS 0 lv 0 (n_lC 1 lv 1 (n_lC 107 lv 2 (n_lI lv 3 (fun x3 => n_pE st (n_one i M2 r x3 M))))))]) 21 (ia_row N hG hX hT) (n_kc (fun lv st M' r' k => by
    obtain ⟨e0, k0⟩ := n_lS_x k
    obtain ⟨e1, k1⟩ := n_lC_x k0
    obtain ⟨e2, k2⟩ := n_lC_x k1
    obtain ⟨x3, e3, k3⟩ := n_lI_x k2
    obtain ⟨rfl, k4⟩ := n_pE_x k3
    exact n_sub (n_qc e0 (n_qc e1 (n_qc e2 (n_qc e3 n_qe)))) (by obtain ⟨rfl, rfl, rfl⟩ := n_one_x k4; exact h3)) n_ke) (F := fl_row N G L xs (n_one i M2 r) i M) (by rfl) (by
    unfold fl_row
    simp only [hb1, n_chk, h1, h2, Option.bind_some, ↓reduceIte, n_one_at])
noncomputable abbrev al_game (N : Nat) (G : nG) (L : Nat) (xs : Nat → Int32) : List (Nat × nO nR) := [(1577, o_aload 1 1578), (1578, o_aloadS 0 1579), (1579, o_iload 3 1580), (1580, o_push (.int (1 : Int32)) 1581), (1581, o_iadd 1582), (1582, o_sald L xs 1583), (1583, o_callVc 1 1 (hX11_game N G) 1586), (1586, o_aload 2 1587), (1587, o_aloadS 0 1588), (1588, o_iload 3 1589), (1589, o_push (.int (1 : Int32)) 1590), (1590, o_iadd 1591), (1591, o_sald L xs 1592), (1592, o_callVc 107 1 (hX12_game N) 1595), (1595, oc_eq 1675 1598), (1598, o_push (.int (0 : Int32)) 1599), (1599, o_no)]
set_option maxRecDepth 200000 in
theorem ia_game {l : Launch} {w : nW} {nm : String} {G : nG} {L : Nat} {xs : Nat → Int32} (N : Nat) (hG : n_GOK G) (hX : n_PX w L xs) (hT : n_PS w) : n_AllS l w 530 (n_mlaw nm) G (fun r => r) (al_game N G L xs) :=
  n_c (s_aload_n (μ := n_mlaw nm) (pc := 1577) (k := 1) dl_1577) <|
  n_c (s_aloadS (μ := n_mlaw nm) (pc := 1578) (k := 0) dl_1578) <|
  n_c (s_iload_n (μ := n_mlaw nm) (pc := 1579) (k := 3) dl_1579) <|
  n_c (s_iconst (μ := n_mlaw nm) (pc := 1580) (n := 1) dl_1580 (by decide +kernel)) <|
  n_c (s_iadd (μ := n_mlaw nm) (pc := 1581) dl_1581) <|
  n_c (s_sald (μ := n_mlaw nm) (pc := 1582) hX dl_1582) <|
  n_c (s_callVc (s_callV (μ := n_mlaw nm) (pc := 1583) (csX11_game N hG) (by decide) okX11_game nok11 w_1356 w_1357 w_1355 dl_1583) (gk1 hG)) <|
  n_c (s_aload_n (μ := n_mlaw nm) (pc := 1586) (k := 2) dl_1586) <|
  n_c (s_aloadS (μ := n_mlaw nm) (pc := 1587) (k := 0) dl_1587) <|
  n_c (s_iload_n (μ := n_mlaw nm) (pc := 1588) (k := 3) dl_1588) <|
  n_c (s_iconst (μ := n_mlaw nm) (pc := 1589) (n := 1) dl_1589 (by decide +kernel)) <|
  n_c (s_iadd (μ := n_mlaw nm) (pc := 1590) dl_1590) <|
  n_c (s_sald (μ := n_mlaw nm) (pc := 1591) hX dl_1591) <|
  n_c (s_callVc (s_callV (μ := n_mlaw nm) (pc := 1592) (csX12_game N hG) (by decide) okX12_game nok12 w_2150 w_2151 w_2149 dl_1592) (gk107 hG)) <|
  n_c (s_icmp_eq (μ := n_mlaw nm) (pc := 1595) (off := 80) dl_1595 (by decide +kernel)) <|
  n_c (s_iconst (μ := n_mlaw nm) (pc := 1598) (n := 0) dl_1598 (by decide +kernel)) <|
  n_c (s_no) <|
  n_e
noncomputable def fl_game (N : Nat) (G : nG) (L : Nat) (xs : Nat → Int32) (kk : Int32 → nM → Option nR) (x3 : Int32) (M : nM) : Option nR :=
  n_chk (n_ib L (x3 + (1 : Int32))) <|
  (fX11_game N G (xs (x3 + (1 : Int32)).toNatClampNeg) M).bind fun p =>
  n_chk (n_ib L (x3 + (1 : Int32))) <|
  (fX12_game N (xs (x3 + (1 : Int32)).toNatClampNeg) p.2).bind fun q =>
  if p.1 = q.1 then kk x3 q.2 else none
set_option maxRecDepth 200000 in
theorem lc_game {l : Launch} {w : nW} {nm : String} {G : nG} {L : Nat} {xs : Nat → Int32} (N : Nat) (hG : n_GOK G) (hX : n_PX w L xs) (hT : n_PS w) (i : Int32) (M M1 M2 : nM) (v : Int32) (r : nR) (hb1 : n_ib L (i + (1 : Int32)) = true) (h1 : fX11_game N G (xs (i + (1 : Int32)).toNatClampNeg) M = some (v, M1)) (h2 : fX12_game N (xs (i + (1 : Int32)).toNatClampNeg) M1 = some (v, M2)) (h3 : n_Lw l w nm 1675 i (G, M2) r) : n_Lw l w nm 1577 i (G, M) r :=
  n_seg (fin := fun r => r) (K := [(1675, fun lv st M => n_lS 0 lv 0 (n_lC 1 lv 1 (n_lC 107 lv 2 (n_lI lv 3 (fun x3 => n_pE st (n_one i M2 r x3 M))))))]) 21 (ia_game N hG hX hT) (n_kc (fun lv st M' r' k => by
    obtain ⟨e0, k0⟩ := n_lS_x k
    obtain ⟨e1, k1⟩ := n_lC_x k0
    obtain ⟨e2, k2⟩ := n_lC_x k1
    obtain ⟨x3, e3, k3⟩ := n_lI_x k2
    obtain ⟨rfl, k4⟩ := n_pE_x k3
    exact n_sub (n_qc e0 (n_qc e1 (n_qc e2 (n_qc e3 n_qe)))) (by obtain ⟨rfl, rfl, rfl⟩ := n_one_x k4; exact h3)) n_ke) (F := fl_game N G L xs (n_one i M2 r) i M) (by rfl) (by
    unfold fl_game
    simp only [hb1, n_chk, h1, h2, Option.bind_some, ↓reduceIte, n_one_at])
noncomputable abbrev al_undo (N : Nat) (G : nG) (L : Nat) (xs : Nat → Int32) : List (Nat × nO nR) := [(1600, o_aload 1 1601), (1601, o_callVc 1 0 (hX11_undo G) 1604), (1604, o_aload 2 1605), (1605, o_callVc 107 0 (hX12_undo N) 1608), (1608, oc_eq 1675 1611), (1611, o_push (.int (0 : Int32)) 1612), (1612, o_no)]
set_option maxRecDepth 200000 in
theorem ia_undo {l : Launch} {w : nW} {nm : String} {G : nG} {L : Nat} {xs : Nat → Int32} (N : Nat) (hG : n_GOK G) (hX : n_PX w L xs) (hT : n_PS w) : n_AllS l w 530 (n_mlaw nm) G (fun r => r) (al_undo N G L xs) :=
  n_c (s_aload_n (μ := n_mlaw nm) (pc := 1600) (k := 1) dl_1600) <|
  n_c (s_callVc (s_callV (μ := n_mlaw nm) (pc := 1601) (csX11_undo hG) (by decide) okX11_undo nok11 w_1368 w_1369 w_1367 dl_1601) (gk1 hG)) <|
  n_c (s_aload_n (μ := n_mlaw nm) (pc := 1604) (k := 2) dl_1604) <|
  n_c (s_callVc (s_callV (μ := n_mlaw nm) (pc := 1605) (csX12_undo N hG) (by decide) okX12_undo nok12 w_1646 w_1647 w_1645 dl_1605) (gk107 hG)) <|
  n_c (s_icmp_eq (μ := n_mlaw nm) (pc := 1608) (off := 67) dl_1608 (by decide +kernel)) <|
  n_c (s_iconst (μ := n_mlaw nm) (pc := 1611) (n := 0) dl_1611 (by decide +kernel)) <|
  n_c (s_no) <|
  n_e
noncomputable def fl_undo (N : Nat) (G : nG) (L : Nat) (xs : Nat → Int32) (kk : Int32 → nM → Option nR) (x3 : Int32) (M : nM) : Option nR :=
  (fX11_undo G M).bind fun p =>
  (fX12_undo N p.2).bind fun q =>
  if p.1 = q.1 then kk x3 q.2 else none
set_option maxRecDepth 200000 in
theorem lc_undo {l : Launch} {w : nW} {nm : String} {G : nG} {L : Nat} {xs : Nat → Int32} (N : Nat) (hG : n_GOK G) (hX : n_PX w L xs) (hT : n_PS w) (i : Int32) (M M1 M2 : nM) (v : Int32) (r : nR) (h1 : fX11_undo G M = some (v, M1)) (h2 : fX12_undo N M1 = some (v, M2)) (h3 : n_Lw l w nm 1675 i (G, M2) r) : n_Lw l w nm 1600 i (G, M) r :=
  n_seg (fin := fun r => r) (K := [(1675, fun lv st M => n_lS 0 lv 0 (n_lC 1 lv 1 (n_lC 107 lv 2 (n_lI lv 3 (fun x3 => n_pE st (n_one i M2 r x3 M))))))]) 11 (ia_undo N hG hX hT) (n_kc (fun lv st M' r' k => by
    obtain ⟨e0, k0⟩ := n_lS_x k
    obtain ⟨e1, k1⟩ := n_lC_x k0
    obtain ⟨e2, k2⟩ := n_lC_x k1
    obtain ⟨x3, e3, k3⟩ := n_lI_x k2
    obtain ⟨rfl, k4⟩ := n_pE_x k3
    exact n_sub (n_qc e0 (n_qc e1 (n_qc e2 (n_qc e3 n_qe)))) (by obtain ⟨rfl, rfl, rfl⟩ := n_one_x k4; exact h3)) n_ke) (F := fl_undo N G L xs (n_one i M2 r) i M) (by rfl) (by
    unfold fl_undo
    simp only [n_chk, h1, h2, Option.bind_some, ↓reduceIte, n_one_at])
noncomputable abbrev al_image (N : Nat) (G : nG) (L : Nat) (xs : Nat → Int32) : List (Nat × nD nR) := [(1613, o_up (fun G => o_aload 1 1614)), (1614, o_up (fun G => o_aloadS 0 1615)), (1615, o_up (fun G => o_iload 3 1616)), (1616, o_up (fun G => o_push (.int (1 : Int32)) 1617)), (1617, o_up (fun G => o_iadd 1618)), (1618, o_up (fun G => o_sald L xs 1619)), (1619, o_up (fun G => oi_eq 1626 1622)), (1622, o_up (fun G => o_push (.int (1 : Int32)) 1623)), (1623, o_up (fun G => o_goto 1627)), (1626, o_up (fun G => o_push (.int (0 : Int32)) 1627)), (1627, o_callVd 11 1 (hX11_image N) 1630), (1630, o_up (fun G => o_aload 2 1631)), (1631, o_up (fun G => o_aloadS 0 1632)), (1632, o_up (fun G => o_iload 3 1633)), (1633, o_up (fun G => o_push (.int (1 : Int32)) 1634)), (1634, o_up (fun G => o_iadd 1635)), (1635, o_up (fun G => o_sald L xs 1636)), (1636, o_up (fun G => oi_eq 1643 1639)), (1639, o_up (fun G => o_push (.int (1 : Int32)) 1640)), (1640, o_up (fun G => o_goto 1644)), (1643, o_up (fun G => o_push (.int (0 : Int32)) 1644)), (1644, o_upG (fun G => o_callV G 12 1 (hX12_image N) 1647)), (1647, o_up (fun G => oc_eq 1675 1650)), (1650, o_up (fun G => o_push (.int (0 : Int32)) 1651)), (1651, o_up (fun G => o_no))]
set_option maxRecDepth 200000 in
theorem ia_image {l : Launch} {w : nW} {nm : String} {G : nG} {L : Nat} {xs : Nat → Int32} (N : Nat) (hX : n_PX w L xs) (hT : n_PS w) : n_AllD l w 530 (n_mlaw nm) (fun r => r) (al_image N G L xs) :=
  n_cd (s_up fun G => s_aload_n (μ := n_mlaw nm) (pc := 1613) (k := 1) dl_1613) <|
  n_cd (s_up fun G => s_aloadS (μ := n_mlaw nm) (pc := 1614) (k := 0) dl_1614) <|
  n_cd (s_up fun G => s_iload_n (μ := n_mlaw nm) (pc := 1615) (k := 3) dl_1615) <|
  n_cd (s_up fun G => s_iconst (μ := n_mlaw nm) (pc := 1616) (n := 1) dl_1616 (by decide +kernel)) <|
  n_cd (s_up fun G => s_iadd (μ := n_mlaw nm) (pc := 1617) dl_1617) <|
  n_cd (s_up fun G => s_sald (μ := n_mlaw nm) (pc := 1618) hX dl_1618) <|
  n_cd (s_up fun G => s_if_eq (μ := n_mlaw nm) (pc := 1619) (off := 7) dl_1619 (by decide +kernel)) <|
  n_cd (s_up fun G => s_iconst (μ := n_mlaw nm) (pc := 1622) (n := 1) dl_1622 (by decide +kernel)) <|
  n_cd (s_up fun G => s_goto (μ := n_mlaw nm) (pc := 1623) (off := 4) dl_1623 (by decide +kernel)) <|
  n_cd (s_up fun G => s_iconst (μ := n_mlaw nm) (pc := 1626) (n := 0) dl_1626 (by decide +kernel)) <|
  n_cd (s_callVd (μ := n_mlaw nm) (pc := 1627) (csX11_image N) (by decide) okX11_image nok11 w_1376 w_1377 w_1375 dl_1627) <|
  n_cd (s_up fun G => s_aload_n (μ := n_mlaw nm) (pc := 1630) (k := 2) dl_1630) <|
  n_cd (s_up fun G => s_aloadS (μ := n_mlaw nm) (pc := 1631) (k := 0) dl_1631) <|
  n_cd (s_up fun G => s_iload_n (μ := n_mlaw nm) (pc := 1632) (k := 3) dl_1632) <|
  n_cd (s_up fun G => s_iconst (μ := n_mlaw nm) (pc := 1633) (n := 1) dl_1633 (by decide +kernel)) <|
  n_cd (s_up fun G => s_iadd (μ := n_mlaw nm) (pc := 1634) dl_1634) <|
  n_cd (s_up fun G => s_sald (μ := n_mlaw nm) (pc := 1635) hX dl_1635) <|
  n_cd (s_up fun G => s_if_eq (μ := n_mlaw nm) (pc := 1636) (off := 7) dl_1636 (by decide +kernel)) <|
  n_cd (s_up fun G => s_iconst (μ := n_mlaw nm) (pc := 1639) (n := 1) dl_1639 (by decide +kernel)) <|
  n_cd (s_up fun G => s_goto (μ := n_mlaw nm) (pc := 1640) (off := 4) dl_1640 (by decide +kernel)) <|
  n_cd (s_up fun G => s_iconst (μ := n_mlaw nm) (pc := 1643) (n := 0) dl_1643 (by decide +kernel)) <|
  n_cd (s_upG fun G hG => s_callV (μ := n_mlaw nm) (pc := 1644) (csX12_image N hG) (by decide) okX12_image nok12 w_2158 w_2159 w_2157 dl_1644) <|
  n_cd (s_up fun G => s_icmp_eq (μ := n_mlaw nm) (pc := 1647) (off := 28) dl_1647 (by decide +kernel)) <|
  n_cd (s_up fun G => s_iconst (μ := n_mlaw nm) (pc := 1650) (n := 0) dl_1650 (by decide +kernel)) <|
  n_cd (s_up fun G => s_no) <|
  n_ed
noncomputable def fl_image (N : Nat) (G : nG) (L : Nat) (xs : Nat → Int32) (kk : Int32 → nH → Option nR) (x3 : Int32) (hh : nH) : Option nR :=
  n_chk (n_ib L (x3 + (1 : Int32))) <|
  if (xs (x3 + (1 : Int32)).toNatClampNeg) = 0 then
    n_chk (Nat.beq (n_kd hh.1 1) 11 && true) <|
    (fX11_image N 1 (0 : Int32) hh).bind fun p =>
    n_chk (n_ib L (x3 + (1 : Int32))) <|
    if (xs (x3 + (1 : Int32)).toNatClampNeg) = 0 then
      n_ig p.2.1 <|
      n_chk (Nat.beq (n_kd p.2.1 107) 12 && true) <|
      (fX12_image N (0 : Int32) p.2.2).bind fun q =>
      if p.1 = q.1 then kk x3 (p.2.1, q.2) else none
    else
      n_ig p.2.1 <|
      n_chk (Nat.beq (n_kd p.2.1 107) 12 && true) <|
      (fX12_image N (1 : Int32) p.2.2).bind fun q =>
      if p.1 = q.1 then kk x3 (p.2.1, q.2) else none
  else
    n_chk (Nat.beq (n_kd hh.1 1) 11 && true) <|
    (fX11_image N 1 (1 : Int32) hh).bind fun p =>
    n_chk (n_ib L (x3 + (1 : Int32))) <|
    if (xs (x3 + (1 : Int32)).toNatClampNeg) = 0 then
      n_ig p.2.1 <|
      n_chk (Nat.beq (n_kd p.2.1 107) 12 && true) <|
      (fX12_image N (0 : Int32) p.2.2).bind fun q =>
      if p.1 = q.1 then kk x3 (p.2.1, q.2) else none
    else
      n_ig p.2.1 <|
      n_chk (Nat.beq (n_kd p.2.1 107) 12 && true) <|
      (fX12_image N (1 : Int32) p.2.2).bind fun q =>
      if p.1 = q.1 then kk x3 (p.2.1, q.2) else none
set_option maxRecDepth 200000 in
theorem lc_image {l : Launch} {w : nW} {nm : String} {L : Nat} {xs : Nat → Int32} (N : Nat) (hX : n_PX w L xs) (hT : n_PS w) (i : Int32) (hh h' : nH) (M2 : nM) (v : Int32) (r : nR) (hk1 : n_kd hh.1 1 = 11) (hG : n_GOK h'.1) (hb1 : n_ib L (i + (1 : Int32)) = true) (h1 : fX11_image N 1 (if (xs (i + (1 : Int32)).toNatClampNeg) = 0 then 0 else 1) hh = some (v, h')) (h2 : fX12_image N (if (xs (i + (1 : Int32)).toNatClampNeg) = 0 then 0 else 1) h'.2 = some (v, M2)) (h3 : n_Lw l w nm 1675 i (h'.1, M2) r) : n_Lw l w nm 1613 i hh r :=
  n_segd (fin := fun r => r) (K := [(1675, fun lv st hh => n_lS 0 lv 0 (n_lC 1 lv 1 (n_lC 107 lv 2 (n_lI lv 3 (fun x3 => n_pE st (n_oned i (h'.1, M2) r x3 hh))))))]) 29 (ia_image (G := hh.1) N hX hT) (n_kcd (fun lv st hh' r' k => by
    obtain ⟨e0, k0⟩ := n_lS_x k
    obtain ⟨e1, k1⟩ := n_lC_x k0
    obtain ⟨e2, k2⟩ := n_lC_x k1
    obtain ⟨x3, e3, k3⟩ := n_lI_x k2
    obtain ⟨rfl, k4⟩ := n_pE_x k3
    exact n_sub (n_qc e0 (n_qc e1 (n_qc e2 (n_qc e3 n_qe)))) (by obtain ⟨rfl, rfl, rfl⟩ := n_oned_x k4; exact h3)) n_ked) (F := fl_image N hh.1 L xs (n_oned i (h'.1, M2) r) i hh) (by rfl) (by
    have hk7 : n_kd h'.1 107 = 12 := gk107 hG
    have hb0 : (Nat.beq 11 11 && true) = true := rfl
    have hb00 : (Nat.beq 12 12 && true) = true := rfl
    unfold fl_image
    by_cases hz : (xs (i + (1 : Int32)).toNatClampNeg) = 0
    · simp only [hz, ↓reduceIte, if_true] at h1 h2 ⊢
      simp only [hb1, hk1, hk7, hb0, hb00, n_chk, h1, h2, Option.bind_some, ↓reduceIte, n_ig, if_pos hG, n_oned_at]
    · simp only [hz, ↓reduceIte, if_false] at h1 h2 ⊢
      simp only [hb1, hk1, hk7, hb0, hb00, n_chk, h1, h2, Option.bind_some, ↓reduceIte, n_ig, if_pos hG, n_oned_at]
    )
noncomputable abbrev al_look (N : Nat) (G : nG) (L : Nat) (xs : Nat → Int32) : List (Nat × nO nR) := [(1652, o_aload 1 1653), (1653, o_aloadS 0 1654), (1654, o_iload 3 1655), (1655, o_push (.int (1 : Int32)) 1656), (1656, o_iadd 1657), (1657, o_sald L xs 1658), (1658, o_callVc 1 1 (hX11_look) 1661), (1661, o_aload 2 1662), (1662, o_aloadS 0 1663), (1663, o_iload 3 1664), (1664, o_push (.int (1 : Int32)) 1665), (1665, o_iadd 1666), (1666, o_sald L xs 1667), (1667, o_callVc 107 1 (hX12_look N) 1670), (1670, oc_eq 1675 1673), (1673, o_push (.int (0 : Int32)) 1674), (1674, o_no)]
set_option maxRecDepth 200000 in
theorem ia_look {l : Launch} {w : nW} {nm : String} {G : nG} {L : Nat} {xs : Nat → Int32} (N : Nat) (hG : n_GOK G) (hX : n_PX w L xs) (hT : n_PS w) : n_AllS l w 530 (n_mlaw nm) G (fun r => r) (al_look N G L xs) :=
  n_c (s_aload_n (μ := n_mlaw nm) (pc := 1652) (k := 1) dl_1652) <|
  n_c (s_aloadS (μ := n_mlaw nm) (pc := 1653) (k := 0) dl_1653) <|
  n_c (s_iload_n (μ := n_mlaw nm) (pc := 1654) (k := 3) dl_1654) <|
  n_c (s_iconst (μ := n_mlaw nm) (pc := 1655) (n := 1) dl_1655 (by decide +kernel)) <|
  n_c (s_iadd (μ := n_mlaw nm) (pc := 1656) dl_1656) <|
  n_c (s_sald (μ := n_mlaw nm) (pc := 1657) hX dl_1657) <|
  n_c (s_callVc (s_callV (μ := n_mlaw nm) (pc := 1658) (csX11_look hG) (by decide) okX11_look nok11 w_1398 w_1399 w_1397 dl_1658) (gk1 hG)) <|
  n_c (s_aload_n (μ := n_mlaw nm) (pc := 1661) (k := 2) dl_1661) <|
  n_c (s_aloadS (μ := n_mlaw nm) (pc := 1662) (k := 0) dl_1662) <|
  n_c (s_iload_n (μ := n_mlaw nm) (pc := 1663) (k := 3) dl_1663) <|
  n_c (s_iconst (μ := n_mlaw nm) (pc := 1664) (n := 1) dl_1664 (by decide +kernel)) <|
  n_c (s_iadd (μ := n_mlaw nm) (pc := 1665) dl_1665) <|
  n_c (s_sald (μ := n_mlaw nm) (pc := 1666) hX dl_1666) <|
  n_c (s_callVc (s_callV (μ := n_mlaw nm) (pc := 1667) (csX12_look N hG) (by decide) okX12_look nok12 w_2182 w_2183 w_2181 dl_1667) (gk107 hG)) <|
  n_c (s_icmp_eq (μ := n_mlaw nm) (pc := 1670) (off := 5) dl_1670 (by decide +kernel)) <|
  n_c (s_iconst (μ := n_mlaw nm) (pc := 1673) (n := 0) dl_1673 (by decide +kernel)) <|
  n_c (s_no) <|
  n_e
noncomputable def fl_look (N : Nat) (G : nG) (L : Nat) (xs : Nat → Int32) (kk : Int32 → nM → Option nR) (x3 : Int32) (M : nM) : Option nR :=
  n_chk (n_ib L (x3 + (1 : Int32))) <|
  (fX11_look (xs (x3 + (1 : Int32)).toNatClampNeg) M).bind fun p =>
  n_chk (n_ib L (x3 + (1 : Int32))) <|
  (fX12_look N (xs (x3 + (1 : Int32)).toNatClampNeg) p.2).bind fun q =>
  if p.1 = q.1 then kk x3 q.2 else none
set_option maxRecDepth 200000 in
theorem lc_look {l : Launch} {w : nW} {nm : String} {G : nG} {L : Nat} {xs : Nat → Int32} (N : Nat) (hG : n_GOK G) (hX : n_PX w L xs) (hT : n_PS w) (i : Int32) (M M1 M2 : nM) (v : Int32) (r : nR) (hb1 : n_ib L (i + (1 : Int32)) = true) (h1 : fX11_look (xs (i + (1 : Int32)).toNatClampNeg) M = some (v, M1)) (h2 : fX12_look N (xs (i + (1 : Int32)).toNatClampNeg) M1 = some (v, M2)) (h3 : n_Lw l w nm 1675 i (G, M2) r) : n_Lw l w nm 1652 i (G, M) r :=
  n_seg (fin := fun r => r) (K := [(1675, fun lv st M => n_lS 0 lv 0 (n_lC 1 lv 1 (n_lC 107 lv 2 (n_lI lv 3 (fun x3 => n_pE st (n_one i M2 r x3 M))))))]) 21 (ia_look N hG hX hT) (n_kc (fun lv st M' r' k => by
    obtain ⟨e0, k0⟩ := n_lS_x k
    obtain ⟨e1, k1⟩ := n_lC_x k0
    obtain ⟨e2, k2⟩ := n_lC_x k1
    obtain ⟨x3, e3, k3⟩ := n_lI_x k2
    obtain ⟨rfl, k4⟩ := n_pE_x k3
    exact n_sub (n_qc e0 (n_qc e1 (n_qc e2 (n_qc e3 n_qe)))) (by obtain ⟨rfl, rfl, rfl⟩ := n_one_x k4; exact h3)) n_ke) (F := fl_look N G L xs (n_one i M2 r) i M) (by rfl) (by
    unfold fl_look
    simp only [hb1, n_chk, h1, h2, Option.bind_some, ↓reduceIte, n_one_at])
noncomputable abbrev al_head (N : Nat) (G : nG) (L : Nat) (xs : Nat → Int32) : List (Nat × nO nR) := [(18, o_iload 3 19), (19, o_aloadS 0 20), (20, o_slen L 21), (21, o_push (.int (6 : Int32)) 23), (23, o_isub 24), (24, oc_gt 1681 27), (27, o_aloadS 0 28), (28, o_iload 3 29), (29, o_sald L xs 30), (30, o_push (.int (63 : Int32)) 32), (32, o_iand 33), (33, o_sw lw_sw 1675)]
set_option maxRecDepth 200000 in
theorem ia_head {l : Launch} {w : nW} {nm : String} {G : nG} {L : Nat} {xs : Nat → Int32} (N : Nat) (hG : n_GOK G) (hX : n_PX w L xs) (hT : n_PS w) : n_AllS l w 530 (n_mlaw nm) G (fun r => r) (al_head N G L xs) :=
  n_c (s_iload_n (μ := n_mlaw nm) (pc := 18) (k := 3) dl_18) <|
  n_c (s_aloadS (μ := n_mlaw nm) (pc := 19) (k := 0) dl_19) <|
  n_c (s_slen (μ := n_mlaw nm) (pc := 20) hX dl_20) <|
  n_c (s_bipush (μ := n_mlaw nm) (pc := 21) (n := 6) dl_21 (by decide +kernel)) <|
  n_c (s_isub (μ := n_mlaw nm) (pc := 23) dl_23) <|
  n_c (s_icmp_gt (μ := n_mlaw nm) (pc := 24) (off := 1657) dl_24 (by decide +kernel)) <|
  n_c (s_aloadS (μ := n_mlaw nm) (pc := 27) (k := 0) dl_27) <|
  n_c (s_iload_n (μ := n_mlaw nm) (pc := 28) (k := 3) dl_28) <|
  n_c (s_sald (μ := n_mlaw nm) (pc := 29) hX dl_29) <|
  n_c (s_bipush (μ := n_mlaw nm) (pc := 30) (n := 63) dl_30 (by decide +kernel)) <|
  n_c (s_iand (μ := n_mlaw nm) (pc := 32) dl_32) <|
  n_c (s_tsw (μ := n_mlaw nm) (pc := 33) (dflt := 1642) (lo := 0) (hi := 44) (offs := #[195, 218, 261, 294, 337, 380, 413, 446, 469, 532, 555, 578, 601, 634, 667, 700, 753, 786, 819, 862, 895, 928, 951, 974, 1007, 1040, 1063, 1096, 1119, 1162, 1195, 1218, 1251, 1284, 1317, 1350, 1383, 1442, 1465, 1488, 1521, 1544, 1567, 1580, 1619]) (len := 195) dl_33 (by decide +kernel)) <|
  n_e
noncomputable def fl_head (L : Nat) (xs : Nat → Int32) (kk : Nat → Int32 → nM → Option nR) (x3 : Int32) (M : nM) : Option nR :=
  if (Int32.ofNat L - (6 : Int32)) < x3 then kk 1681 x3 M else
  n_chk (n_ib L x3) <|
  let v : Int32 := xs x3.toNatClampNeg &&& (63 : Int32)
  if v = (0 : Int32) then kk 228 x3 M else
  if v = (1 : Int32) then kk 251 x3 M else
  if v = (2 : Int32) then kk 294 x3 M else
  if v = (3 : Int32) then kk 327 x3 M else
  if v = (4 : Int32) then kk 370 x3 M else
  if v = (5 : Int32) then kk 413 x3 M else
  if v = (6 : Int32) then kk 446 x3 M else
  if v = (7 : Int32) then kk 479 x3 M else
  if v = (8 : Int32) then kk 502 x3 M else
  if v = (9 : Int32) then kk 565 x3 M else
  if v = (10 : Int32) then kk 588 x3 M else
  if v = (11 : Int32) then kk 611 x3 M else
  if v = (12 : Int32) then kk 634 x3 M else
  if v = (13 : Int32) then kk 667 x3 M else
  if v = (14 : Int32) then kk 700 x3 M else
  if v = (15 : Int32) then kk 733 x3 M else
  if v = (16 : Int32) then kk 786 x3 M else
  if v = (17 : Int32) then kk 819 x3 M else
  if v = (18 : Int32) then kk 852 x3 M else
  if v = (19 : Int32) then kk 895 x3 M else
  if v = (20 : Int32) then kk 928 x3 M else
  if v = (21 : Int32) then kk 961 x3 M else
  if v = (22 : Int32) then kk 984 x3 M else
  if v = (23 : Int32) then kk 1007 x3 M else
  if v = (24 : Int32) then kk 1040 x3 M else
  if v = (25 : Int32) then kk 1073 x3 M else
  if v = (26 : Int32) then kk 1096 x3 M else
  if v = (27 : Int32) then kk 1129 x3 M else
  if v = (28 : Int32) then kk 1152 x3 M else
  if v = (29 : Int32) then kk 1195 x3 M else
  if v = (30 : Int32) then kk 1228 x3 M else
  if v = (31 : Int32) then kk 1251 x3 M else
  if v = (32 : Int32) then kk 1284 x3 M else
  if v = (33 : Int32) then kk 1317 x3 M else
  if v = (34 : Int32) then kk 1350 x3 M else
  if v = (35 : Int32) then kk 1383 x3 M else
  if v = (36 : Int32) then kk 1416 x3 M else
  if v = (37 : Int32) then kk 1475 x3 M else
  if v = (38 : Int32) then kk 1498 x3 M else
  if v = (39 : Int32) then kk 1521 x3 M else
  if v = (40 : Int32) then kk 1554 x3 M else
  if v = (41 : Int32) then kk 1577 x3 M else
  if v = (42 : Int32) then kk 1600 x3 M else
  if v = (43 : Int32) then kk 1613 x3 M else
  if v = (44 : Int32) then kk 1652 x3 M else
  kk 1675 x3 M
def lw_tg (v : Int32) : Nat := n_sw lw_sw 1675 v id
noncomputable def n_onet (t : Nat) (i : Int32) (M2 : nM) (r : nR) : Nat → Int32 → nM → Option nR := fun p y M => if p = t then n_one i M2 r y M else none
theorem n_onet_x {t p : Nat} {i y : Int32} {M M2 : nM} {r q : nR} (h : n_onet t i M2 r p y M = some q) : p = t ∧ y = i ∧ M = M2 ∧ r = q := by
  unfold n_onet at h
  split at h
  · rename_i e
    exact ⟨e, n_one_x h⟩
  · cases h
set_option maxRecDepth 200000 in
theorem lh_at {l : Launch} {w : nW} {nm : String} {G : nG} {L : Nat} {xs : Nat → Int32} (N : Nat) (hG : n_GOK G) (hX : n_PX w L xs) (hT : n_PS w) (i : Int32) (M0 : nM) (t : Nat) (r : nR) (h3 : n_Lw l w nm t i (G, M0) r) (hF : fl_head L xs (n_onet t i M0 r) i M0 = some r) : n_Lw l w nm 18 i (G, M0) r :=
  n_seg (fin := fun r => r) (K := [(228, fun lv st M => n_lS 0 lv 0 (n_lC 1 lv 1 (n_lC 107 lv 2 (n_lI lv 3 (fun x3 => n_pE st (n_onet t i M0 r 228 x3 M)))))), (251, fun lv st M => n_lS 0 lv 0 (n_lC 1 lv 1 (n_lC 107 lv 2 (n_lI lv 3 (fun x3 => n_pE st (n_onet t i M0 r 251 x3 M)))))), (294, fun lv st M => n_lS 0 lv 0 (n_lC 1 lv 1 (n_lC 107 lv 2 (n_lI lv 3 (fun x3 => n_pE st (n_onet t i M0 r 294 x3 M)))))), (327, fun lv st M => n_lS 0 lv 0 (n_lC 1 lv 1 (n_lC 107 lv 2 (n_lI lv 3 (fun x3 => n_pE st (n_onet t i M0 r 327 x3 M)))))), (370, fun lv st M => n_lS 0 lv 0 (n_lC 1 lv 1 (n_lC 107 lv 2 (n_lI lv 3 (fun x3 => n_pE st (n_onet t i M0 r 370 x3 M)))))), (413, fun lv st M => n_lS 0 lv 0 (n_lC 1 lv 1 (n_lC 107 lv 2 (n_lI lv 3 (fun x3 => n_pE st (n_onet t i M0 r 413 x3 M)))))), (446, fun lv st M => n_lS 0 lv 0 (n_lC 1 lv 1 (n_lC 107 lv 2 (n_lI lv 3 (fun x3 => n_pE st (n_onet t i M0 r 446 x3 M)))))), (479, fun lv st M => n_lS 0 lv 0 (n_lC 1 lv 1 (n_lC 107 lv 2 (n_lI lv 3 (fun x3 => n_pE st (n_onet t i M0 r 479 x3 M)))))), (502, fun lv st M => n_lS 0 lv 0 (n_lC 1 lv 1 (n_lC 107 lv 2 (n_lI lv 3 (fun x3 => n_pE st (n_onet t i M0 r 502 x3 M)))))), (565, fun lv st M => n_lS 0 lv 0 (n_lC 1 lv 1 (n_lC 107 lv 2 (n_lI lv 3 (fun x3 => n_pE st (n_onet t i M0 r 565 x3 M)))))), (588, fun lv st M => n_lS 0 lv 0 (n_lC 1 lv 1 (n_lC 107 lv 2 (n_lI lv 3 (fun x3 => n_pE st (n_onet t i M0 r 588 x3 M)))))), (611, fun lv st M => n_lS 0 lv 0 (n_lC 1 lv 1 (n_lC 107 lv 2 (n_lI lv 3 (fun x3 => n_pE st (n_onet t i M0 r 611 x3 M)))))), (634, fun lv st M => n_lS 0 lv 0 (n_lC 1 lv 1 (n_lC 107 lv 2 (n_lI lv 3 (fun x3 => n_pE st (n_onet t i M0 r 634 x3 M)))))), (667, fun lv st M => n_lS 0 lv 0 (n_lC 1 lv 1 (n_lC 107 lv 2 (n_lI lv 3 (fun x3 => n_pE st (n_onet t i M0 r 667 x3 M)))))), (700, fun lv st M => n_lS 0 lv 0 (n_lC 1 lv 1 (n_lC 107 lv 2 (n_lI lv 3 (fun x3 => n_pE st (n_onet t i M0 r 700 x3 M)))))), (733, fun lv st M => n_lS 0 lv 0 (n_lC 1 lv 1 (n_lC 107 lv 2 (n_lI lv 3 (fun x3 => n_pE st (n_onet t i M0 r 733 x3 M)))))), (786, fun lv st M => n_lS 0 lv 0 (n_lC 1 lv 1 (n_lC 107 lv 2 (n_lI lv 3 (fun x3 => n_pE st (n_onet t i M0 r 786 x3 M)))))), (819, fun lv st M => n_lS 0 lv 0 (n_lC 1 lv 1 (n_lC 107 lv 2 (n_lI lv 3 (fun x3 => n_pE st (n_onet t i M0 r 819 x3 M)))))), (852, fun lv st M => n_lS 0 lv 0 (n_lC 1 lv 1 (n_lC 107 lv 2 (n_lI lv 3 (fun x3 => n_pE st (n_onet t i M0 r 852 x3 M)))))), (895, fun lv st M => n_lS 0 lv 0 (n_lC 1 lv 1 (n_lC 107 lv 2 (n_lI lv 3 (fun x3 => n_pE st (n_onet t i M0 r 895 x3 M)))))), (928, fun lv st M => n_lS 0 lv 0 (n_lC 1 lv 1 (n_lC 107 lv 2 (n_lI lv 3 (fun x3 => n_pE st (n_onet t i M0 r 928 x3 M)))))), (961, fun lv st M => n_lS 0 lv 0 (n_lC 1 lv 1 (n_lC 107 lv 2 (n_lI lv 3 (fun x3 => n_pE st (n_onet t i M0 r 961 x3 M)))))), (984, fun lv st M => n_lS 0 lv 0 (n_lC 1 lv 1 (n_lC 107 lv 2 (n_lI lv 3 (fun x3 => n_pE st (n_onet t i M0 r 984 x3 M)))))), (1007, fun lv st M => n_lS 0 lv 0 (n_lC 1 lv 1 (n_lC 107 lv 2 (n_lI lv 3 (fun x3 => n_pE st (n_onet t i M0 r 1007 x3 M)))))), (1040, fun lv st M => n_lS 0 lv 0 (n_lC 1 lv 1 (n_lC 107 lv 2 (n_lI lv 3 (fun x3 => n_pE st (n_onet t i M0 r 1040 x3 M)))))), (1073, fun lv st M => n_lS 0 lv 0 (n_lC 1 lv 1 (n_lC 107 lv 2 (n_lI lv 3 (fun x3 => n_pE st (n_onet t i M0 r 1073 x3 M)))))), (1096, fun lv st M => n_lS 0 lv 0 (n_lC 1 lv 1 (n_lC 107 lv 2 (n_lI lv 3 (fun x3 => n_pE st (n_onet t i M0 r 1096 x3 M)))))), (1129, fun lv st M => n_lS 0 lv 0 (n_lC 1 lv 1 (n_lC 107 lv 2 (n_lI lv 3 (fun x3 => n_pE st (n_onet t i M0 r 1129 x3 M)))))), (1152, fun lv st M => n_lS 0 lv 0 (n_lC 1 lv 1 (n_lC 107 lv 2 (n_lI lv 3 (fun x3 => n_pE st (n_onet t i M0 r 1152 x3 M)))))), (1195, fun lv st M => n_lS 0 lv 0 (n_lC 1 lv 1 (n_lC 107 lv 2 (n_lI lv 3 (fun x3 => n_pE st (n_onet t i M0 r 1195 x3 M)))))), (1228, fun lv st M => n_lS 0 lv 0 (n_lC 1 lv 1 (n_lC 107 lv 2 (n_lI lv 3 (fun x3 => n_pE st (n_onet t i M0 r 1228 x3 M)))))), (1251, fun lv st M => n_lS 0 lv 0 (n_lC 1 lv 1 (n_lC 107 lv 2 (n_lI lv 3 (fun x3 => n_pE st (n_onet t i M0 r 1251 x3 M)))))), (1284, fun lv st M => n_lS 0 lv 0 (n_lC 1 lv 1 (n_lC 107 lv 2 (n_lI lv 3 (fun x3 => n_pE st (n_onet t i M0 r 1284 x3 M)))))), (1317, fun lv st M => n_lS 0 lv 0 (n_lC 1 lv 1 (n_lC 107 lv 2 (n_lI lv 3 (fun x3 => n_pE st (n_onet t i M0 r 1317 x3 M)))))), (1350, fun lv st M => n_lS 0 lv 0 (n_lC 1 lv 1 (n_lC 107 lv 2 (n_lI lv 3 (fun x3 => n_pE st (n_onet t i M0 r 1350 x3 M)))))), (1383, fun lv st M => n_lS 0 lv 0 (n_lC 1 lv 1 (n_lC 107 lv 2 (n_lI lv 3 (fun x3 => n_pE st (n_onet t i M0 r 1383 x3 M)))))), (1416, fun lv st M => n_lS 0 lv 0 (n_lC 1 lv 1 (n_lC 107 lv 2 (n_lI lv 3 (fun x3 => n_pE st (n_onet t i M0 r 1416 x3 M)))))), (1475, fun lv st M => n_lS 0 lv 0 (n_lC 1 lv 1 (n_lC 107 lv 2 (n_lI lv 3 (fun x3 => n_pE st (n_onet t i M0 r 1475 x3 M)))))), (1498, fun lv st M => n_lS 0 lv 0 (n_lC 1 lv 1 (n_lC 107 lv 2 (n_lI lv 3 (fun x3 => n_pE st (n_onet t i M0 r 1498 x3 M)))))), (1521, fun lv st M => n_lS 0 lv 0 (n_lC 1 lv 1 (n_lC 107 lv 2 (n_lI lv 3 (fun x3 => n_pE st (n_onet t i M0 r 1521 x3 M)))))), (1554, fun lv st M => n_lS 0 lv 0 (n_lC 1 lv 1 (n_lC 107 lv 2 (n_lI lv 3 (fun x3 => n_pE st (n_onet t i M0 r 1554 x3 M)))))), (1577, fun lv st M => n_lS 0 lv 0 (n_lC 1 lv 1 (n_lC 107 lv 2 (n_lI lv 3 (fun x3 => n_pE st (n_onet t i M0 r 1577 x3 M)))))), (1600, fun lv st M => n_lS 0 lv 0 (n_lC 1 lv 1 (n_lC 107 lv 2 (n_lI lv 3 (fun x3 => n_pE st (n_onet t i M0 r 1600 x3 M)))))), (1613, fun lv st M => n_lS 0 lv 0 (n_lC 1 lv 1 (n_lC 107 lv 2 (n_lI lv 3 (fun x3 => n_pE st (n_onet t i M0 r 1613 x3 M)))))), (1652, fun lv st M => n_lS 0 lv 0 (n_lC 1 lv 1 (n_lC 107 lv 2 (n_lI lv 3 (fun x3 => n_pE st (n_onet t i M0 r 1652 x3 M)))))), (1675, fun lv st M => n_lS 0 lv 0 (n_lC 1 lv 1 (n_lC 107 lv 2 (n_lI lv 3 (fun x3 => n_pE st (n_onet t i M0 r 1675 x3 M)))))), (1681, fun lv st M => n_lS 0 lv 0 (n_lC 1 lv 1 (n_lC 107 lv 2 (n_lI lv 3 (fun x3 => n_pE st (n_onet t i M0 r 1681 x3 M))))))]) 16 (ia_head N hG hX hT) (n_kc (fun lv st M' r' k => by
    obtain ⟨e0, k0⟩ := n_lS_x k
    obtain ⟨e1, k1⟩ := n_lC_x k0
    obtain ⟨e2, k2⟩ := n_lC_x k1
    obtain ⟨x3, e3, k3⟩ := n_lI_x k2
    obtain ⟨rfl, k4⟩ := n_pE_x k3
    exact n_sub (n_qc e0 (n_qc e1 (n_qc e2 (n_qc e3 n_qe)))) (by obtain ⟨e9, rfl, rfl, rfl⟩ := n_onet_x k4; rw [← e9] at h3; exact h3)) (n_kc (fun lv st M' r' k => by
    obtain ⟨e0, k0⟩ := n_lS_x k
    obtain ⟨e1, k1⟩ := n_lC_x k0
    obtain ⟨e2, k2⟩ := n_lC_x k1
    obtain ⟨x3, e3, k3⟩ := n_lI_x k2
    obtain ⟨rfl, k4⟩ := n_pE_x k3
    exact n_sub (n_qc e0 (n_qc e1 (n_qc e2 (n_qc e3 n_qe)))) (by obtain ⟨e9, rfl, rfl, rfl⟩ := n_onet_x k4; rw [← e9] at h3; exact h3)) (n_kc (fun lv st M' r' k => by
    obtain ⟨e0, k0⟩ := n_lS_x k
    obtain ⟨e1, k1⟩ := n_lC_x k0
    obtain ⟨e2, k2⟩ := n_lC_x k1
    obtain ⟨x3, e3, k3⟩ := n_lI_x k2
    obtain ⟨rfl, k4⟩ := n_pE_x k3
    exact n_sub (n_qc e0 (n_qc e1 (n_qc e2 (n_qc e3 n_qe)))) (by obtain ⟨e9, rfl, rfl, rfl⟩ := n_onet_x k4; rw [← e9] at h3; exact h3)) (n_kc (fun lv st M' r' k => by
    obtain ⟨e0, k0⟩ := n_lS_x k
    obtain ⟨e1, k1⟩ := n_lC_x k0
    obtain ⟨e2, k2⟩ := n_lC_x k1
    obtain ⟨x3, e3, k3⟩ := n_lI_x k2
    obtain ⟨rfl, k4⟩ := n_pE_x k3
    exact n_sub (n_qc e0 (n_qc e1 (n_qc e2 (n_qc e3 n_qe)))) (by obtain ⟨e9, rfl, rfl, rfl⟩ := n_onet_x k4; rw [← e9] at h3; exact h3)) (n_kc (fun lv st M' r' k => by
    obtain ⟨e0, k0⟩ := n_lS_x k
    obtain ⟨e1, k1⟩ := n_lC_x k0
    obtain ⟨e2, k2⟩ := n_lC_x k1
    obtain ⟨x3, e3, k3⟩ := n_lI_x k2
    obtain ⟨rfl, k4⟩ := n_pE_x k3
    exact n_sub (n_qc e0 (n_qc e1 (n_qc e2 (n_qc e3 n_qe)))) (by obtain ⟨e9, rfl, rfl, rfl⟩ := n_onet_x k4; rw [← e9] at h3; exact h3)) (n_kc (fun lv st M' r' k => by
    obtain ⟨e0, k0⟩ := n_lS_x k
    obtain ⟨e1, k1⟩ := n_lC_x k0
    obtain ⟨e2, k2⟩ := n_lC_x k1
    obtain ⟨x3, e3, k3⟩ := n_lI_x k2
    obtain ⟨rfl, k4⟩ := n_pE_x k3
    exact n_sub (n_qc e0 (n_qc e1 (n_qc e2 (n_qc e3 n_qe)))) (by obtain ⟨e9, rfl, rfl, rfl⟩ := n_onet_x k4; rw [← e9] at h3; exact h3)) (n_kc (fun lv st M' r' k => by
    obtain ⟨e0, k0⟩ := n_lS_x k
    obtain ⟨e1, k1⟩ := n_lC_x k0
    obtain ⟨e2, k2⟩ := n_lC_x k1
    obtain ⟨x3, e3, k3⟩ := n_lI_x k2
    obtain ⟨rfl, k4⟩ := n_pE_x k3
    exact n_sub (n_qc e0 (n_qc e1 (n_qc e2 (n_qc e3 n_qe)))) (by obtain ⟨e9, rfl, rfl, rfl⟩ := n_onet_x k4; rw [← e9] at h3; exact h3)) (n_kc (fun lv st M' r' k => by
    obtain ⟨e0, k0⟩ := n_lS_x k
    obtain ⟨e1, k1⟩ := n_lC_x k0
    obtain ⟨e2, k2⟩ := n_lC_x k1
    obtain ⟨x3, e3, k3⟩ := n_lI_x k2
    obtain ⟨rfl, k4⟩ := n_pE_x k3
    exact n_sub (n_qc e0 (n_qc e1 (n_qc e2 (n_qc e3 n_qe)))) (by obtain ⟨e9, rfl, rfl, rfl⟩ := n_onet_x k4; rw [← e9] at h3; exact h3)) (n_kc (fun lv st M' r' k => by
    obtain ⟨e0, k0⟩ := n_lS_x k
    obtain ⟨e1, k1⟩ := n_lC_x k0
    obtain ⟨e2, k2⟩ := n_lC_x k1
    obtain ⟨x3, e3, k3⟩ := n_lI_x k2
    obtain ⟨rfl, k4⟩ := n_pE_x k3
    exact n_sub (n_qc e0 (n_qc e1 (n_qc e2 (n_qc e3 n_qe)))) (by obtain ⟨e9, rfl, rfl, rfl⟩ := n_onet_x k4; rw [← e9] at h3; exact h3)) (n_kc (fun lv st M' r' k => by
    obtain ⟨e0, k0⟩ := n_lS_x k
    obtain ⟨e1, k1⟩ := n_lC_x k0
    obtain ⟨e2, k2⟩ := n_lC_x k1
    obtain ⟨x3, e3, k3⟩ := n_lI_x k2
    obtain ⟨rfl, k4⟩ := n_pE_x k3
    exact n_sub (n_qc e0 (n_qc e1 (n_qc e2 (n_qc e3 n_qe)))) (by obtain ⟨e9, rfl, rfl, rfl⟩ := n_onet_x k4; rw [← e9] at h3; exact h3)) (n_kc (fun lv st M' r' k => by
    obtain ⟨e0, k0⟩ := n_lS_x k
    obtain ⟨e1, k1⟩ := n_lC_x k0
    obtain ⟨e2, k2⟩ := n_lC_x k1
    obtain ⟨x3, e3, k3⟩ := n_lI_x k2
    obtain ⟨rfl, k4⟩ := n_pE_x k3
    exact n_sub (n_qc e0 (n_qc e1 (n_qc e2 (n_qc e3 n_qe)))) (by obtain ⟨e9, rfl, rfl, rfl⟩ := n_onet_x k4; rw [← e9] at h3; exact h3)) (n_kc (fun lv st M' r' k => by
    obtain ⟨e0, k0⟩ := n_lS_x k
    obtain ⟨e1, k1⟩ := n_lC_x k0
    obtain ⟨e2, k2⟩ := n_lC_x k1
    obtain ⟨x3, e3, k3⟩ := n_lI_x k2
    obtain ⟨rfl, k4⟩ := n_pE_x k3
    exact n_sub (n_qc e0 (n_qc e1 (n_qc e2 (n_qc e3 n_qe)))) (by obtain ⟨e9, rfl, rfl, rfl⟩ := n_onet_x k4; rw [← e9] at h3; exact h3)) (n_kc (fun lv st M' r' k => by
    obtain ⟨e0, k0⟩ := n_lS_x k
    obtain ⟨e1, k1⟩ := n_lC_x k0
    obtain ⟨e2, k2⟩ := n_lC_x k1
    obtain ⟨x3, e3, k3⟩ := n_lI_x k2
    obtain ⟨rfl, k4⟩ := n_pE_x k3
    exact n_sub (n_qc e0 (n_qc e1 (n_qc e2 (n_qc e3 n_qe)))) (by obtain ⟨e9, rfl, rfl, rfl⟩ := n_onet_x k4; rw [← e9] at h3; exact h3)) (n_kc (fun lv st M' r' k => by
    obtain ⟨e0, k0⟩ := n_lS_x k
    obtain ⟨e1, k1⟩ := n_lC_x k0
    obtain ⟨e2, k2⟩ := n_lC_x k1
    obtain ⟨x3, e3, k3⟩ := n_lI_x k2
    obtain ⟨rfl, k4⟩ := n_pE_x k3
    exact n_sub (n_qc e0 (n_qc e1 (n_qc e2 (n_qc e3 n_qe)))) (by obtain ⟨e9, rfl, rfl, rfl⟩ := n_onet_x k4; rw [← e9] at h3; exact h3)) (n_kc (fun lv st M' r' k => by
    obtain ⟨e0, k0⟩ := n_lS_x k
    obtain ⟨e1, k1⟩ := n_lC_x k0
    obtain ⟨e2, k2⟩ := n_lC_x k1
    obtain ⟨x3, e3, k3⟩ := n_lI_x k2
    obtain ⟨rfl, k4⟩ := n_pE_x k3
    exact n_sub (n_qc e0 (n_qc e1 (n_qc e2 (n_qc e3 n_qe)))) (by obtain ⟨e9, rfl, rfl, rfl⟩ := n_onet_x k4; rw [← e9] at h3; exact h3)) (n_kc (fun lv st M' r' k => by
    obtain ⟨e0, k0⟩ := n_lS_x k
    obtain ⟨e1, k1⟩ := n_lC_x k0
    obtain ⟨e2, k2⟩ := n_lC_x k1
    obtain ⟨x3, e3, k3⟩ := n_lI_x k2
    obtain ⟨rfl, k4⟩ := n_pE_x k3
    exact n_sub (n_qc e0 (n_qc e1 (n_qc e2 (n_qc e3 n_qe)))) (by obtain ⟨e9, rfl, rfl, rfl⟩ := n_onet_x k4; rw [← e9] at h3; exact h3)) (n_kc (fun lv st M' r' k => by
    obtain ⟨e0, k0⟩ := n_lS_x k
    obtain ⟨e1, k1⟩ := n_lC_x k0
    obtain ⟨e2, k2⟩ := n_lC_x k1
    obtain ⟨x3, e3, k3⟩ := n_lI_x k2
    obtain ⟨rfl, k4⟩ := n_pE_x k3
    exact n_sub (n_qc e0 (n_qc e1 (n_qc e2 (n_qc e3 n_qe)))) (by obtain ⟨e9, rfl, rfl, rfl⟩ := n_onet_x k4; rw [← e9] at h3; exact h3)) (n_kc (fun lv st M' r' k => by
    obtain ⟨e0, k0⟩ := n_lS_x k
    obtain ⟨e1, k1⟩ := n_lC_x k0
    obtain ⟨e2, k2⟩ := n_lC_x k1
    obtain ⟨x3, e3, k3⟩ := n_lI_x k2
    obtain ⟨rfl, k4⟩ := n_pE_x k3
    exact n_sub (n_qc e0 (n_qc e1 (n_qc e2 (n_qc e3 n_qe)))) (by obtain ⟨e9, rfl, rfl, rfl⟩ := n_onet_x k4; rw [← e9] at h3; exact h3)) (n_kc (fun lv st M' r' k => by
    obtain ⟨e0, k0⟩ := n_lS_x k
    obtain ⟨e1, k1⟩ := n_lC_x k0
    obtain ⟨e2, k2⟩ := n_lC_x k1
    obtain ⟨x3, e3, k3⟩ := n_lI_x k2
    obtain ⟨rfl, k4⟩ := n_pE_x k3
    exact n_sub (n_qc e0 (n_qc e1 (n_qc e2 (n_qc e3 n_qe)))) (by obtain ⟨e9, rfl, rfl, rfl⟩ := n_onet_x k4; rw [← e9] at h3; exact h3)) (n_kc (fun lv st M' r' k => by
    obtain ⟨e0, k0⟩ := n_lS_x k
    obtain ⟨e1, k1⟩ := n_lC_x k0
    obtain ⟨e2, k2⟩ := n_lC_x k1
    obtain ⟨x3, e3, k3⟩ := n_lI_x k2
    obtain ⟨rfl, k4⟩ := n_pE_x k3
    exact n_sub (n_qc e0 (n_qc e1 (n_qc e2 (n_qc e3 n_qe)))) (by obtain ⟨e9, rfl, rfl, rfl⟩ := n_onet_x k4; rw [← e9] at h3; exact h3)) (n_kc (fun lv st M' r' k => by
    obtain ⟨e0, k0⟩ := n_lS_x k
    obtain ⟨e1, k1⟩ := n_lC_x k0
    obtain ⟨e2, k2⟩ := n_lC_x k1
    obtain ⟨x3, e3, k3⟩ := n_lI_x k2
    obtain ⟨rfl, k4⟩ := n_pE_x k3
    exact n_sub (n_qc e0 (n_qc e1 (n_qc e2 (n_qc e3 n_qe)))) (by obtain ⟨e9, rfl, rfl, rfl⟩ := n_onet_x k4; rw [← e9] at h3; exact h3)) (n_kc (fun lv st M' r' k => by
    obtain ⟨e0, k0⟩ := n_lS_x k
    obtain ⟨e1, k1⟩ := n_lC_x k0
    obtain ⟨e2, k2⟩ := n_lC_x k1
    obtain ⟨x3, e3, k3⟩ := n_lI_x k2
    obtain ⟨rfl, k4⟩ := n_pE_x k3
    exact n_sub (n_qc e0 (n_qc e1 (n_qc e2 (n_qc e3 n_qe)))) (by obtain ⟨e9, rfl, rfl, rfl⟩ := n_onet_x k4; rw [← e9] at h3; exact h3)) (n_kc (fun lv st M' r' k => by
    obtain ⟨e0, k0⟩ := n_lS_x k
    obtain ⟨e1, k1⟩ := n_lC_x k0
    obtain ⟨e2, k2⟩ := n_lC_x k1
    obtain ⟨x3, e3, k3⟩ := n_lI_x k2
    obtain ⟨rfl, k4⟩ := n_pE_x k3
    exact n_sub (n_qc e0 (n_qc e1 (n_qc e2 (n_qc e3 n_qe)))) (by obtain ⟨e9, rfl, rfl, rfl⟩ := n_onet_x k4; rw [← e9] at h3; exact h3)) (n_kc (fun lv st M' r' k => by
    obtain ⟨e0, k0⟩ := n_lS_x k
    obtain ⟨e1, k1⟩ := n_lC_x k0
    obtain ⟨e2, k2⟩ := n_lC_x k1
    obtain ⟨x3, e3, k3⟩ := n_lI_x k2
    obtain ⟨rfl, k4⟩ := n_pE_x k3
    exact n_sub (n_qc e0 (n_qc e1 (n_qc e2 (n_qc e3 n_qe)))) (by obtain ⟨e9, rfl, rfl, rfl⟩ := n_onet_x k4; rw [← e9] at h3; exact h3)) (n_kc (fun lv st M' r' k => by
    obtain ⟨e0, k0⟩ := n_lS_x k
    obtain ⟨e1, k1⟩ := n_lC_x k0
    obtain ⟨e2, k2⟩ := n_lC_x k1
    obtain ⟨x3, e3, k3⟩ := n_lI_x k2
    obtain ⟨rfl, k4⟩ := n_pE_x k3
    exact n_sub (n_qc e0 (n_qc e1 (n_qc e2 (n_qc e3 n_qe)))) (by obtain ⟨e9, rfl, rfl, rfl⟩ := n_onet_x k4; rw [← e9] at h3; exact h3)) (n_kc (fun lv st M' r' k => by
    obtain ⟨e0, k0⟩ := n_lS_x k
    obtain ⟨e1, k1⟩ := n_lC_x k0
    obtain ⟨e2, k2⟩ := n_lC_x k1
    obtain ⟨x3, e3, k3⟩ := n_lI_x k2
    obtain ⟨rfl, k4⟩ := n_pE_x k3
    exact n_sub (n_qc e0 (n_qc e1 (n_qc e2 (n_qc e3 n_qe)))) (by obtain ⟨e9, rfl, rfl, rfl⟩ := n_onet_x k4; rw [← e9] at h3; exact h3)) (n_kc (fun lv st M' r' k => by
    obtain ⟨e0, k0⟩ := n_lS_x k
    obtain ⟨e1, k1⟩ := n_lC_x k0
    obtain ⟨e2, k2⟩ := n_lC_x k1
    obtain ⟨x3, e3, k3⟩ := n_lI_x k2
    obtain ⟨rfl, k4⟩ := n_pE_x k3
    exact n_sub (n_qc e0 (n_qc e1 (n_qc e2 (n_qc e3 n_qe)))) (by obtain ⟨e9, rfl, rfl, rfl⟩ := n_onet_x k4; rw [← e9] at h3; exact h3)) (n_kc (fun lv st M' r' k => by
    obtain ⟨e0, k0⟩ := n_lS_x k
    obtain ⟨e1, k1⟩ := n_lC_x k0
    obtain ⟨e2, k2⟩ := n_lC_x k1
    obtain ⟨x3, e3, k3⟩ := n_lI_x k2
    obtain ⟨rfl, k4⟩ := n_pE_x k3
    exact n_sub (n_qc e0 (n_qc e1 (n_qc e2 (n_qc e3 n_qe)))) (by obtain ⟨e9, rfl, rfl, rfl⟩ := n_onet_x k4; rw [← e9] at h3; exact h3)) (n_kc (fun lv st M' r' k => by
    obtain ⟨e0, k0⟩ := n_lS_x k
    obtain ⟨e1, k1⟩ := n_lC_x k0
    obtain ⟨e2, k2⟩ := n_lC_x k1
    obtain ⟨x3, e3, k3⟩ := n_lI_x k2
    obtain ⟨rfl, k4⟩ := n_pE_x k3
    exact n_sub (n_qc e0 (n_qc e1 (n_qc e2 (n_qc e3 n_qe)))) (by obtain ⟨e9, rfl, rfl, rfl⟩ := n_onet_x k4; rw [← e9] at h3; exact h3)) (n_kc (fun lv st M' r' k => by
    obtain ⟨e0, k0⟩ := n_lS_x k
    obtain ⟨e1, k1⟩ := n_lC_x k0
    obtain ⟨e2, k2⟩ := n_lC_x k1
    obtain ⟨x3, e3, k3⟩ := n_lI_x k2
    obtain ⟨rfl, k4⟩ := n_pE_x k3
    exact n_sub (n_qc e0 (n_qc e1 (n_qc e2 (n_qc e3 n_qe)))) (by obtain ⟨e9, rfl, rfl, rfl⟩ := n_onet_x k4; rw [← e9] at h3; exact h3)) (n_kc (fun lv st M' r' k => by
    obtain ⟨e0, k0⟩ := n_lS_x k
    obtain ⟨e1, k1⟩ := n_lC_x k0
    obtain ⟨e2, k2⟩ := n_lC_x k1
    obtain ⟨x3, e3, k3⟩ := n_lI_x k2
    obtain ⟨rfl, k4⟩ := n_pE_x k3
    exact n_sub (n_qc e0 (n_qc e1 (n_qc e2 (n_qc e3 n_qe)))) (by obtain ⟨e9, rfl, rfl, rfl⟩ := n_onet_x k4; rw [← e9] at h3; exact h3)) (n_kc (fun lv st M' r' k => by
    obtain ⟨e0, k0⟩ := n_lS_x k
    obtain ⟨e1, k1⟩ := n_lC_x k0
    obtain ⟨e2, k2⟩ := n_lC_x k1
    obtain ⟨x3, e3, k3⟩ := n_lI_x k2
    obtain ⟨rfl, k4⟩ := n_pE_x k3
    exact n_sub (n_qc e0 (n_qc e1 (n_qc e2 (n_qc e3 n_qe)))) (by obtain ⟨e9, rfl, rfl, rfl⟩ := n_onet_x k4; rw [← e9] at h3; exact h3)) (n_kc (fun lv st M' r' k => by
    obtain ⟨e0, k0⟩ := n_lS_x k
    obtain ⟨e1, k1⟩ := n_lC_x k0
    obtain ⟨e2, k2⟩ := n_lC_x k1
    obtain ⟨x3, e3, k3⟩ := n_lI_x k2
    obtain ⟨rfl, k4⟩ := n_pE_x k3
    exact n_sub (n_qc e0 (n_qc e1 (n_qc e2 (n_qc e3 n_qe)))) (by obtain ⟨e9, rfl, rfl, rfl⟩ := n_onet_x k4; rw [← e9] at h3; exact h3)) (n_kc (fun lv st M' r' k => by
    obtain ⟨e0, k0⟩ := n_lS_x k
    obtain ⟨e1, k1⟩ := n_lC_x k0
    obtain ⟨e2, k2⟩ := n_lC_x k1
    obtain ⟨x3, e3, k3⟩ := n_lI_x k2
    obtain ⟨rfl, k4⟩ := n_pE_x k3
    exact n_sub (n_qc e0 (n_qc e1 (n_qc e2 (n_qc e3 n_qe)))) (by obtain ⟨e9, rfl, rfl, rfl⟩ := n_onet_x k4; rw [← e9] at h3; exact h3)) (n_kc (fun lv st M' r' k => by
    obtain ⟨e0, k0⟩ := n_lS_x k
    obtain ⟨e1, k1⟩ := n_lC_x k0
    obtain ⟨e2, k2⟩ := n_lC_x k1
    obtain ⟨x3, e3, k3⟩ := n_lI_x k2
    obtain ⟨rfl, k4⟩ := n_pE_x k3
    exact n_sub (n_qc e0 (n_qc e1 (n_qc e2 (n_qc e3 n_qe)))) (by obtain ⟨e9, rfl, rfl, rfl⟩ := n_onet_x k4; rw [← e9] at h3; exact h3)) (n_kc (fun lv st M' r' k => by
    obtain ⟨e0, k0⟩ := n_lS_x k
    obtain ⟨e1, k1⟩ := n_lC_x k0
    obtain ⟨e2, k2⟩ := n_lC_x k1
    obtain ⟨x3, e3, k3⟩ := n_lI_x k2
    obtain ⟨rfl, k4⟩ := n_pE_x k3
    exact n_sub (n_qc e0 (n_qc e1 (n_qc e2 (n_qc e3 n_qe)))) (by obtain ⟨e9, rfl, rfl, rfl⟩ := n_onet_x k4; rw [← e9] at h3; exact h3)) (n_kc (fun lv st M' r' k => by
    obtain ⟨e0, k0⟩ := n_lS_x k
    obtain ⟨e1, k1⟩ := n_lC_x k0
    obtain ⟨e2, k2⟩ := n_lC_x k1
    obtain ⟨x3, e3, k3⟩ := n_lI_x k2
    obtain ⟨rfl, k4⟩ := n_pE_x k3
    exact n_sub (n_qc e0 (n_qc e1 (n_qc e2 (n_qc e3 n_qe)))) (by obtain ⟨e9, rfl, rfl, rfl⟩ := n_onet_x k4; rw [← e9] at h3; exact h3)) (n_kc (fun lv st M' r' k => by
    obtain ⟨e0, k0⟩ := n_lS_x k
    obtain ⟨e1, k1⟩ := n_lC_x k0
    obtain ⟨e2, k2⟩ := n_lC_x k1
    obtain ⟨x3, e3, k3⟩ := n_lI_x k2
    obtain ⟨rfl, k4⟩ := n_pE_x k3
    exact n_sub (n_qc e0 (n_qc e1 (n_qc e2 (n_qc e3 n_qe)))) (by obtain ⟨e9, rfl, rfl, rfl⟩ := n_onet_x k4; rw [← e9] at h3; exact h3)) (n_kc (fun lv st M' r' k => by
    obtain ⟨e0, k0⟩ := n_lS_x k
    obtain ⟨e1, k1⟩ := n_lC_x k0
    obtain ⟨e2, k2⟩ := n_lC_x k1
    obtain ⟨x3, e3, k3⟩ := n_lI_x k2
    obtain ⟨rfl, k4⟩ := n_pE_x k3
    exact n_sub (n_qc e0 (n_qc e1 (n_qc e2 (n_qc e3 n_qe)))) (by obtain ⟨e9, rfl, rfl, rfl⟩ := n_onet_x k4; rw [← e9] at h3; exact h3)) (n_kc (fun lv st M' r' k => by
    obtain ⟨e0, k0⟩ := n_lS_x k
    obtain ⟨e1, k1⟩ := n_lC_x k0
    obtain ⟨e2, k2⟩ := n_lC_x k1
    obtain ⟨x3, e3, k3⟩ := n_lI_x k2
    obtain ⟨rfl, k4⟩ := n_pE_x k3
    exact n_sub (n_qc e0 (n_qc e1 (n_qc e2 (n_qc e3 n_qe)))) (by obtain ⟨e9, rfl, rfl, rfl⟩ := n_onet_x k4; rw [← e9] at h3; exact h3)) (n_kc (fun lv st M' r' k => by
    obtain ⟨e0, k0⟩ := n_lS_x k
    obtain ⟨e1, k1⟩ := n_lC_x k0
    obtain ⟨e2, k2⟩ := n_lC_x k1
    obtain ⟨x3, e3, k3⟩ := n_lI_x k2
    obtain ⟨rfl, k4⟩ := n_pE_x k3
    exact n_sub (n_qc e0 (n_qc e1 (n_qc e2 (n_qc e3 n_qe)))) (by obtain ⟨e9, rfl, rfl, rfl⟩ := n_onet_x k4; rw [← e9] at h3; exact h3)) (n_kc (fun lv st M' r' k => by
    obtain ⟨e0, k0⟩ := n_lS_x k
    obtain ⟨e1, k1⟩ := n_lC_x k0
    obtain ⟨e2, k2⟩ := n_lC_x k1
    obtain ⟨x3, e3, k3⟩ := n_lI_x k2
    obtain ⟨rfl, k4⟩ := n_pE_x k3
    exact n_sub (n_qc e0 (n_qc e1 (n_qc e2 (n_qc e3 n_qe)))) (by obtain ⟨e9, rfl, rfl, rfl⟩ := n_onet_x k4; rw [← e9] at h3; exact h3)) (n_kc (fun lv st M' r' k => by
    obtain ⟨e0, k0⟩ := n_lS_x k
    obtain ⟨e1, k1⟩ := n_lC_x k0
    obtain ⟨e2, k2⟩ := n_lC_x k1
    obtain ⟨x3, e3, k3⟩ := n_lI_x k2
    obtain ⟨rfl, k4⟩ := n_pE_x k3
    exact n_sub (n_qc e0 (n_qc e1 (n_qc e2 (n_qc e3 n_qe)))) (by obtain ⟨e9, rfl, rfl, rfl⟩ := n_onet_x k4; rw [← e9] at h3; exact h3)) (n_kc (fun lv st M' r' k => by
    obtain ⟨e0, k0⟩ := n_lS_x k
    obtain ⟨e1, k1⟩ := n_lC_x k0
    obtain ⟨e2, k2⟩ := n_lC_x k1
    obtain ⟨x3, e3, k3⟩ := n_lI_x k2
    obtain ⟨rfl, k4⟩ := n_pE_x k3
    exact n_sub (n_qc e0 (n_qc e1 (n_qc e2 (n_qc e3 n_qe)))) (by obtain ⟨e9, rfl, rfl, rfl⟩ := n_onet_x k4; rw [← e9] at h3; exact h3)) (n_kc (fun lv st M' r' k => by
    obtain ⟨e0, k0⟩ := n_lS_x k
    obtain ⟨e1, k1⟩ := n_lC_x k0
    obtain ⟨e2, k2⟩ := n_lC_x k1
    obtain ⟨x3, e3, k3⟩ := n_lI_x k2
    obtain ⟨rfl, k4⟩ := n_pE_x k3
    exact n_sub (n_qc e0 (n_qc e1 (n_qc e2 (n_qc e3 n_qe)))) (by obtain ⟨e9, rfl, rfl, rfl⟩ := n_onet_x k4; rw [← e9] at h3; exact h3)) (n_kc (fun lv st M' r' k => by
    obtain ⟨e0, k0⟩ := n_lS_x k
    obtain ⟨e1, k1⟩ := n_lC_x k0
    obtain ⟨e2, k2⟩ := n_lC_x k1
    obtain ⟨x3, e3, k3⟩ := n_lI_x k2
    obtain ⟨rfl, k4⟩ := n_pE_x k3
    exact n_sub (n_qc e0 (n_qc e1 (n_qc e2 (n_qc e3 n_qe)))) (by obtain ⟨e9, rfl, rfl, rfl⟩ := n_onet_x k4; rw [← e9] at h3; exact h3)) (n_kc (fun lv st M' r' k => by
    obtain ⟨e0, k0⟩ := n_lS_x k
    obtain ⟨e1, k1⟩ := n_lC_x k0
    obtain ⟨e2, k2⟩ := n_lC_x k1
    obtain ⟨x3, e3, k3⟩ := n_lI_x k2
    obtain ⟨rfl, k4⟩ := n_pE_x k3
    exact n_sub (n_qc e0 (n_qc e1 (n_qc e2 (n_qc e3 n_qe)))) (by obtain ⟨e9, rfl, rfl, rfl⟩ := n_onet_x k4; rw [← e9] at h3; exact h3)) n_ke))))))))))))))))))))))))))))))))))))))))))))))) (F := fl_head L xs (n_onet t i M0 r) i M0) (by rfl) hF
theorem lh_out {l : Launch} {w : nW} {nm : String} {G : nG} {L : Nat} {xs : Nat → Int32} (N : Nat) (hG : n_GOK G) (hX : n_PX w L xs) (hT : n_PS w) (i : Int32) (M0 : nM) (r : nR) (hi : (Int32.ofNat L - (6 : Int32)) < i) (h3 : n_Lw l w nm 1681 i (G, M0) r) : n_Lw l w nm 18 i (G, M0) r := by
  refine lh_at N hG hX hT i M0 1681 r h3 ?_
  unfold fl_head
  rw [if_pos hi]
  unfold n_onet
  rw [if_pos rfl]
  exact n_one_at i M0 r
theorem lh_in {l : Launch} {w : nW} {nm : String} {G : nG} {L : Nat} {xs : Nat → Int32} (N : Nat) (hG : n_GOK G) (hX : n_PX w L xs) (hT : n_PS w) (i : Int32) (M0 : nM) (r : nR) (hi : ¬ (Int32.ofNat L - (6 : Int32)) < i) (hb : n_ib L i = true) (h3 : n_Lw l w nm (lw_tg (xs i.toNatClampNeg &&& (63 : Int32))) i (G, M0) r) : n_Lw l w nm 18 i (G, M0) r := by
  refine lh_at N hG hX hT i M0 _ r h3 ?_
  unfold fl_head
  rw [if_neg hi, hb]
  show n_sw lw_sw 1675 (xs i.toNatClampNeg &&& (63 : Int32)) (fun p => n_onet (lw_tg (xs i.toNatClampNeg &&& (63 : Int32))) i M0 r p i M0) = some r
  rw [n_sw_id]
  show n_onet (lw_tg (xs i.toNatClampNeg &&& (63 : Int32))) i M0 r (lw_tg (xs i.toNatClampNeg &&& (63 : Int32))) i M0 = some r
  unfold n_onet
  rw [if_pos rfl]
  exact n_one_at i M0 r
noncomputable abbrev al_nextr (N : Nat) (G : nG) (L : Nat) (xs : Nat → Int32) : List (Nat × nO nR) := [(1675, o_inc 4 3 (6 : Int32) 1678), (1678, o_goto 18)]
set_option maxRecDepth 200000 in
theorem ia_nextr {l : Launch} {w : nW} {nm : String} {G : nG} {L : Nat} {xs : Nat → Int32} (N : Nat) (hG : n_GOK G) (hX : n_PX w L xs) (hT : n_PS w) : n_AllS l w 530 (n_mlaw nm) G (fun r => r) (al_nextr N G L xs) :=
  n_c (s_iinc (μ := n_mlaw nm) (pc := 1675) (n := 6) dl_1675 (by decide +kernel)) <|
  n_c (s_goto (μ := n_mlaw nm) (pc := 1678) (off := -1660) dl_1678 (by decide +kernel)) <|
  n_e
set_option maxRecDepth 200000 in
theorem lc_nextr {l : Launch} {w : nW} {nm : String} {G : nG} {L : Nat} {xs : Nat → Int32} (N : Nat) (hG : n_GOK G) (hX : n_PX w L xs) (hT : n_PS w) (i : Int32) (M0 : nM) (r : nR) (h3 : n_Lw l w nm 18 (i + (6 : Int32)) (G, M0) r) : n_Lw l w nm 1675 i (G, M0) r :=
  n_seg (fin := fun r => r) (K := [(18, fun lv st M => n_lS 0 lv 0 (n_lC 1 lv 1 (n_lC 107 lv 2 (n_lI lv 3 (fun x3 => n_pE st (n_one (i + (6 : Int32)) M0 r x3 M))))))]) 6 (ia_nextr N hG hX hT) (n_kc (fun lv st M' r' k => by
    obtain ⟨e0, k0⟩ := n_lS_x k
    obtain ⟨e1, k1⟩ := n_lC_x k0
    obtain ⟨e2, k2⟩ := n_lC_x k1
    obtain ⟨x3, e3, k3⟩ := n_lI_x k2
    obtain ⟨rfl, k4⟩ := n_pE_x k3
    obtain ⟨e9, rfl, rfl⟩ := n_one_x k4
    rw [e9] at e3
    exact n_sub (n_qc e0 (n_qc e1 (n_qc e2 (n_qc e3 n_qe)))) (by exact h3)) n_ke) (F := n_one (i + (6 : Int32)) M0 r (i + (6 : Int32)) M0) (by rfl) (n_one_at _ _ _)
abbrev al_ending : List (Nat × nO (Int32 × nM)) := [(1681, o_push (.int (1 : Int32)) 1682), (1682, o_zret)]
theorem ia_ending {l : Launch} {w : nW} {nm : String} {G : nG}  : n_AllS l w 530 (n_mlaw nm) G (n_fin dv_i G) al_ending :=
  n_c (s_iconst (μ := n_mlaw nm) (pc := 1681) (n := 1) dl_1681 (by decide +kernel)) <|
  n_c (s_zret (μ := n_mlaw nm) (pc := 1682) rfl dl_1682) <|
  n_e
theorem lc_ending {l : Launch} {w : nW} {nm : String} {G : nG} (i : Int32) (M0 : nM) : n_Lw l w nm 1681 i (G, M0) (some (.int 1), (G, M0)) :=
  n_seg (fin := n_fin dv_i G) (K := []) (r := ((1 : Int32), M0)) 4 ia_ending n_ke (F := some ((1 : Int32), M0)) (by rfl) rfl
noncomputable abbrev al_start (N : Nat) (G : nG) (L : Nat) (xs : Nat → Int32) : List (Nat × nD nR) := [(0, o_new 11 8 3), (3, o_up (fun G => o_dup 4)), (4, o_callI 0 (hX11_init N) 7), (7, o_up (fun G => o_astore 4 1 8)), (8, o_new 12 79 11), (11, o_up (fun G => o_dup 12)), (12, o_callI 0 (hX12_init) 15), (15, o_up (fun G => o_astore 4 2 16)), (16, o_up (fun G => o_push (.int (0 : Int32)) 17)), (17, o_up (fun G => o_istore 4 3 18))]
set_option maxRecDepth 200000 in
theorem ia_start {l : Launch} {w : nW} {nm : String} {G : nG} {L : Nat} {xs : Nat → Int32} (N : Nat) (hX : n_PX w L xs) (hT : n_PS w) : n_AllD l w 530 (n_mlaw nm) (fun r => r) (al_start N G L xs) :=
  n_cd (s_new (μ := n_mlaw nm) (pc := 0) nok11 ndf11 w_159 w_160 w_137 dl_0) <|
  n_cd (s_up fun G => s_dup (μ := n_mlaw nm) (pc := 3) dl_3) <|
  n_cd (s_callI (μ := n_mlaw nm) (pc := 4) (idx := 9) (csX11_init N) (by decide) okX11_init rfl rfl w_162 w_161 dl_4) <|
  n_cd (s_up fun G => s_astore_n (μ := n_mlaw nm) (pc := 7) (k := 1) dl_7) <|
  n_cd (s_new (μ := n_mlaw nm) (pc := 8) nok12 ndf12 w_1401 w_1402 w_151 dl_8) <|
  n_cd (s_up fun G => s_dup (μ := n_mlaw nm) (pc := 11) dl_11) <|
  n_cd (s_callI (μ := n_mlaw nm) (pc := 12) (idx := 12) (csX12_init) (by decide) okX12_init rfl rfl w_1404 w_1403 dl_12) <|
  n_cd (s_up fun G => s_astore_n (μ := n_mlaw nm) (pc := 15) (k := 2) dl_15) <|
  n_cd (s_up fun G => s_iconst (μ := n_mlaw nm) (pc := 16) (n := 0) dl_16 (by decide +kernel)) <|
  n_cd (s_up fun G => s_istore_n (μ := n_mlaw nm) (pc := 17) (k := 3) dl_17) <|
  n_ed
noncomputable def n_ones (a b : Nat) (h2 : nH) (r : nR) : Nat → Nat → nH → Option nR := fun x y h => @ite _ (x = a ∧ y = b ∧ h = h2) (Classical.propDecidable _) (some r) none
theorem n_ones_x {a b x y : Nat} {h h2 : nH} {r q : nR} (e : n_ones a b h2 r x y h = some q) : x = a ∧ y = b ∧ h = h2 ∧ r = q := by
  unfold n_ones at e
  split at e
  · rename_i e1
    exact ⟨e1.1, e1.2.1, e1.2.2, Option.some.inj e⟩
  · cases e
noncomputable def fl_start (N : Nat) (kk : Nat → Nat → nH → Option nR) : Option nR :=
  n_chk (Nat.blt 0 (n_n n_h0.1 + 1)) <|
  (fX11_init N (n_n n_h0.1 + 1) (n_alloc n_h0 11 8)).bind fun p =>
  n_chk (Nat.blt 0 (n_n p.2.1 + 1)) <|
  (fX12_init (n_n p.2.1 + 1) (n_alloc p.2 12 79)).bind fun q =>
  kk (n_n n_h0.1 + 1) (n_n p.2.1 + 1) q.2
set_option maxRecDepth 200000 in
theorem lc_start {l : Launch} {w : nW} {nm : String} {L : Nat} {xs : Nat → Int32} (N : Nat) (hX : n_PX w L xs) (hT : n_PS w) (h1 h2 : nH) (r : nR) (e1 : fX11_init N 1 (n_alloc n_h0 11 8) = some ((), h1)) (en : n_n h1.1 = 106) (e2 : fX12_init 107 (n_alloc h1 12 79) = some ((), h2)) (h3 : n_Lw l w nm 18 0 h2 r) : n_At l w 530 (n_mlaw nm) 0 [(0, .retAddr 0)] [] n_h0 r :=
  n_segd (fin := fun r => r) (K := [(18, fun lv st hh => n_lS 0 lv 0 (n_lR lv 1 (fun x1 => n_lR lv 2 (fun x2 => n_lI lv 3 (fun x3 => n_ck (x3 == 0) (n_pE st (n_ones 1 107 h2 r x1 x2 hh)))))))]) 14 (ia_start (G := n_h0.1) N hX hT) (n_kcd (fun lv st hh' r' k => by
    obtain ⟨g0, k0⟩ := n_lS_x k
    obtain ⟨x1, g1, k1⟩ := n_lR_x k0
    obtain ⟨x2, g2, k2⟩ := n_lR_x k1
    obtain ⟨x3, g3, k3⟩ := n_lI_x k2
    obtain ⟨hz, k4⟩ := n_ck_some k3
    obtain ⟨rfl, k5⟩ := n_pE_x k4
    obtain ⟨rfl, rfl, rfl, rfl⟩ := n_ones_x k5
    have hz2 : x3 = 0 := by simpa using hz
    subst hz2
    exact n_sub (n_qc g0 (n_qc g1 (n_qc g2 (n_qc g3 n_qe)))) h3) n_ked) (F := fl_start N (n_ones 1 107 h2 r)) (by rfl) (by
    unfold fl_start
    have hb1 : Nat.blt 0 (n_n n_h0.1 + 1) = true := rfl
    have hn0 : n_n n_h0.1 + 1 = 1 := rfl
    rw [hb1, hn0]
    show (fX11_init N 1 (n_alloc n_h0 11 8)).bind _ = some r
    rw [e1]
    show n_chk (Nat.blt 0 (n_n h1.1 + 1)) _ = some r
    have hb2 : Nat.blt 0 (n_n h1.1 + 1) = true := by rw [en]; rfl
    rw [hb2, en]
    show (fX12_init 107 (n_alloc h1 12 79)).bind _ = some r
    rw [e2]
    show n_ones 1 107 h2 r 1 107 h2 = some r
    exact if_pos ⟨rfl, rfl, rfl⟩)
