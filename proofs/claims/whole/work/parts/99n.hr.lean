/-! ===== image: the relation looks at what is kept only ===== -/
set_option maxRecDepth 100000 in
theorem hx_4 : ∀ i, i < 12 → cd_c cd_L 4 i = true := by decide +kernel
set_option maxRecDepth 100000 in
theorem hx_5 : ∀ i, i < 16 → cd_c cd_L 5 i = true := by decide +kernel
set_option maxRecDepth 100000 in
theorem hx_6 : ∀ i, i < 16 → cd_c cd_L 6 i = true := by decide +kernel
set_option maxRecDepth 100000 in
theorem hx_7 : ∀ i, i < 12 → cd_c cd_L 7 i = true := by decide +kernel
set_option maxRecDepth 100000 in
theorem hx_8 : ∀ i, i < 12 → cd_c cd_L 8 i = true := by decide +kernel
set_option maxRecDepth 100000 in
theorem hx_10 : ∀ i, i < 16 → cd_c cd_L 10 i = true := by decide +kernel
set_option maxRecDepth 100000 in
theorem hx_11 : ∀ i, i < 16 → cd_c cd_L 11 i = true := by decide +kernel
set_option maxRecDepth 100000 in
theorem hx_12 : ∀ i, i < 12 → cd_c cd_L 12 i = true := by decide +kernel
set_option maxRecDepth 100000 in
theorem hx_13 : ∀ i, i < 12 → cd_c cd_L 13 i = true := by decide +kernel
set_option maxRecDepth 100000 in
theorem hx_15 : ∀ i, i < 600 → cd_c cd_L 15 i = true := by decide +kernel
set_option maxRecDepth 100000 in
theorem hx_17 : ∀ i, i < 400 → cd_c cd_L 17 i = true := by decide +kernel
set_option maxRecDepth 100000 in
theorem hx_18 : ∀ i, i < 16 → cd_c cd_L 18 i = true := by decide +kernel
set_option maxRecDepth 100000 in
theorem hx_19 : ∀ i, i < 16 → cd_c cd_L 19 i = true := by decide +kernel
set_option maxRecDepth 100000 in
theorem hx_20 : ∀ i, i < 16 → cd_c cd_L 20 i = true := by decide +kernel
set_option maxRecDepth 100000 in
theorem hx_21 : ∀ i, i < 16 → cd_c cd_L 21 i = true := by decide +kernel
set_option maxRecDepth 100000 in
theorem hx_23 : ∀ i, i < 64 → cd_c cd_L 23 i = true := by decide +kernel
set_option maxRecDepth 100000 in
theorem hx_25 : ∀ i, i < 64 → cd_c cd_L 25 i = true := by decide +kernel
set_option maxRecDepth 100000 in
theorem hx_27 : ∀ i, i < 64 → cd_c cd_L 27 i = true := by decide +kernel
set_option maxRecDepth 100000 in
theorem hx_30 : ∀ i, i < 32 → cd_c cd_L 30 i = true := by decide +kernel
set_option maxRecDepth 100000 in
theorem hx_32 : ∀ i, i < 4 → cd_c cd_L 32 i = true := by decide +kernel
set_option maxRecDepth 100000 in
theorem hx_34 : ∀ i, i < 16 → cd_c cd_L 34 i = true := by decide +kernel
set_option maxRecDepth 100000 in
theorem hx_36 : ∀ i, i < 24 → cd_c cd_L 36 i = true := by decide +kernel
set_option maxRecDepth 100000 in
theorem hx_38 : ∀ i, i < 30 → cd_c cd_L 38 i = true := by decide +kernel
set_option maxRecDepth 100000 in
theorem hx_40 : ∀ i, i < 6 → cd_c cd_L 40 i = true := by decide +kernel
set_option maxRecDepth 100000 in
theorem hx_42 : ∀ i, i < 5 → cd_c cd_L 42 i = true := by decide +kernel
set_option maxRecDepth 100000 in
theorem hx_43 : ∀ i, i < 12 → cd_c cd_L 43 i = true := by decide +kernel
set_option maxRecDepth 100000 in
theorem hx_44 : ∀ i, i < 36 → cd_c cd_L 44 i = true := by decide +kernel
theorem ge_lt {α : Type} {l : List α} {i : Nat} {x : α} (h : l[i]? = some x) : i < l.length := (List.getElem?_eq_some_iff.mp h).1
theorem HR_c {c c' m m' : nM} {n q : Nat} (hc : ∀ a i, a < 45 → cd_c cd_L a i = true → c' a i = c a i) (hm : ∀ j, j < 1936 → m' (k_pl j).1 (k_pl j).2 = m (k_pl j).1 (k_pl j).2) (h : HR c m n q) : HR c' m' n q := by
  have A4 : ∀ i, i < 12 → c' 4 i = c 4 i := fun i hi => hc 4 i (by decide) (hx_4 i hi)
  have A5 : ∀ i, i < 16 → c' 5 i = c 5 i := fun i hi => hc 5 i (by decide) (hx_5 i hi)
  have A6 : ∀ i, i < 16 → c' 6 i = c 6 i := fun i hi => hc 6 i (by decide) (hx_6 i hi)
  have A7 : ∀ i, i < 12 → c' 7 i = c 7 i := fun i hi => hc 7 i (by decide) (hx_7 i hi)
  have A8 : ∀ i, i < 12 → c' 8 i = c 8 i := fun i hi => hc 8 i (by decide) (hx_8 i hi)
  have A10 : ∀ i, i < 16 → c' 10 i = c 10 i := fun i hi => hc 10 i (by decide) (hx_10 i hi)
  have A11 : ∀ i, i < 16 → c' 11 i = c 11 i := fun i hi => hc 11 i (by decide) (hx_11 i hi)
  have A12 : ∀ i, i < 12 → c' 12 i = c 12 i := fun i hi => hc 12 i (by decide) (hx_12 i hi)
  have A13 : ∀ i, i < 12 → c' 13 i = c 13 i := fun i hi => hc 13 i (by decide) (hx_13 i hi)
  have A15 : ∀ i, i < 600 → c' 15 i = c 15 i := fun i hi => hc 15 i (by decide) (hx_15 i hi)
  have A17 : ∀ i, i < 400 → c' 17 i = c 17 i := fun i hi => hc 17 i (by decide) (hx_17 i hi)
  have A18 : ∀ i, i < 16 → c' 18 i = c 18 i := fun i hi => hc 18 i (by decide) (hx_18 i hi)
  have A19 : ∀ i, i < 16 → c' 19 i = c 19 i := fun i hi => hc 19 i (by decide) (hx_19 i hi)
  have A20 : ∀ i, i < 16 → c' 20 i = c 20 i := fun i hi => hc 20 i (by decide) (hx_20 i hi)
  have A21 : ∀ i, i < 16 → c' 21 i = c 21 i := fun i hi => hc 21 i (by decide) (hx_21 i hi)
  have A23 : ∀ i, i < 64 → c' 23 i = c 23 i := fun i hi => hc 23 i (by decide) (hx_23 i hi)
  have A25 : ∀ i, i < 64 → c' 25 i = c 25 i := fun i hi => hc 25 i (by decide) (hx_25 i hi)
  have A27 : ∀ i, i < 64 → c' 27 i = c 27 i := fun i hi => hc 27 i (by decide) (hx_27 i hi)
  have A30 : ∀ i, i < 32 → c' 30 i = c 30 i := fun i hi => hc 30 i (by decide) (hx_30 i hi)
  have A32 : ∀ i, i < 4 → c' 32 i = c 32 i := fun i hi => hc 32 i (by decide) (hx_32 i hi)
  have A34 : ∀ i, i < 16 → c' 34 i = c 34 i := fun i hi => hc 34 i (by decide) (hx_34 i hi)
  have A36 : ∀ i, i < 24 → c' 36 i = c 36 i := fun i hi => hc 36 i (by decide) (hx_36 i hi)
  have A38 : ∀ i, i < 30 → c' 38 i = c 38 i := fun i hi => hc 38 i (by decide) (hx_38 i hi)
  have A40 : ∀ i, i < 6 → c' 40 i = c 40 i := fun i hi => hc 40 i (by decide) (hx_40 i hi)
  have A42 : ∀ i, i < 5 → c' 42 i = c 42 i := fun i hi => hc 42 i (by decide) (hx_42 i hi)
  have A43 : ∀ i, i < 12 → c' 43 i = c 43 i := fun i hi => hc 43 i (by decide) (hx_43 i hi)
  have A44 : ∀ i, i < 36 → c' 44 i = c 44 i := fun i hi => hc 44 i (by decide) (hx_44 i hi)
  have F3_5 : c' 3 5 = c 3 5 := hc 3 5 (by decide) (by decide +kernel)
  have F3_6 : c' 3 6 = c 3 6 := hc 3 6 (by decide) (by decide +kernel)
  have F9_5 : c' 9 5 = c 9 5 := hc 9 5 (by decide) (by decide +kernel)
  have F9_6 : c' 9 6 = c 9 6 := hc 9 6 (by decide) (by decide +kernel)
  have F9_7 : c' 9 7 = c 9 7 := hc 9 7 (by decide) (by decide +kernel)
  have F9_8 : c' 9 8 = c 9 8 := hc 9 8 (by decide) (by decide +kernel)
  have F9_9 : c' 9 9 = c 9 9 := hc 9 9 (by decide) (by decide +kernel)
  have F9_10 : c' 9 10 = c 9 10 := hc 9 10 (by decide) (by decide +kernel)
  have F9_11 : c' 9 11 = c 9 11 := hc 9 11 (by decide) (by decide +kernel)
  have F16_6 : c' 16 6 = c 16 6 := hc 16 6 (by decide) (by decide +kernel)
  have F22_3 : c' 22 3 = c 22 3 := hc 22 3 (by decide) (by decide +kernel)
  have F24_3 : c' 24 3 = c 24 3 := hc 24 3 (by decide) (by decide +kernel)
  have F26_3 : c' 26 3 = c 26 3 := hc 26 3 (by decide) (by decide +kernel)
  have F29_3 : c' 29 3 = c 29 3 := hc 29 3 (by decide) (by decide +kernel)
  have F31_3 : c' 31 3 = c 31 3 := hc 31 3 (by decide) (by decide +kernel)
  have F33_3 : c' 33 3 = c 33 3 := hc 33 3 (by decide) (by decide +kernel)
  have F35_3 : c' 35 3 = c 35 3 := hc 35 3 (by decide) (by decide +kernel)
  have F37_3 : c' 37 3 = c 37 3 := hc 37 3 (by decide) (by decide +kernel)
  have F39_3 : c' 39 3 = c 39 3 := hc 39 3 (by decide) (by decide +kernel)
  have F41_3 : c' 41 3 = c 41 3 := hc 41 3 (by decide) (by decide +kernel)
  have B108 : ∀ i, i < 100 → m' 108 i = m 108 i := fun i hi => by
    have := hm (0 + 1 * i + 0) (by omega)
    rw [kq_image_35_0 i hi] at this
    exact this
  have B112 : ∀ i, i < 16 → m' 112 i = m 112 i := fun i hi => by
    have := hm (112 + 4 * i + 0) (by omega)
    rw [kq_keepsThings_2_0 i hi] at this
    exact this
  have B113 : ∀ i, i < 16 → m' 113 i = m 113 i := fun i hi => by
    have := hm (112 + 4 * i + 1) (by omega)
    rw [kq_keepsThings_2_1 i hi] at this
    exact this
  have B133 : ∀ i, i < 16 → m' 133 i = m 133 i := fun i hi => by
    have := hm (112 + 4 * i + 2) (by omega)
    rw [kq_keepsThings_2_2 i hi] at this
    exact this
  have B134 : ∀ i, i < 16 → m' 134 i = m 134 i := fun i hi => by
    have := hm (112 + 4 * i + 3) (by omega)
    rw [kq_keepsThings_2_3 i hi] at this
    exact this
  have B111 : ∀ i, i < 12 → m' 111 i = m 111 i := fun i hi => by
    have := hm (176 + 5 * i + 0) (by omega)
    rw [kq_keepsThings_80_0 i hi] at this
    exact this
  have B114 : ∀ i, i < 12 → m' 114 i = m 114 i := fun i hi => by
    have := hm (176 + 5 * i + 1) (by omega)
    rw [kq_keepsThings_80_1 i hi] at this
    exact this
  have B115 : ∀ i, i < 12 → m' 115 i = m 115 i := fun i hi => by
    have := hm (176 + 5 * i + 2) (by omega)
    rw [kq_keepsThings_80_2 i hi] at this
    exact this
  have B129 : ∀ i, i < 12 → m' 129 i = m 129 i := fun i hi => by
    have := hm (176 + 5 * i + 3) (by omega)
    rw [kq_keepsThings_80_3 i hi] at this
    exact this
  have B141 : ∀ i, i < 12 → m' 141 i = m 141 i := fun i hi => by
    have := hm (176 + 5 * i + 4) (by omega)
    rw [kq_keepsThings_80_4 i hi] at this
    exact this
  have B135 : ∀ i, i < 4 → m' 135 i = m 135 i := fun i hi => by
    have := hm (236 + 1 * i + 0) (by omega)
    rw [kq_keepsTold_2_0 i hi] at this
    exact this
  have B136 : ∀ i, i < 8 → m' 136 i = m 136 i := fun i hi => by
    have := hm (240 + 2 * i + 0) (by omega)
    rw [kq_keepsTold_31_0 i hi] at this
    exact this
  have B137 : ∀ i, i < 8 → m' 137 i = m 137 i := fun i hi => by
    have := hm (240 + 2 * i + 1) (by omega)
    rw [kq_keepsTold_31_1 i hi] at this
    exact this
  have B139 : ∀ i, i < 10 → m' 139 i = m 139 i := fun i hi => by
    have := hm (256 + 4 * i + 0) (by omega)
    rw [kq_keepsTold_77_0 i hi] at this
    exact this
  have B144 : ∀ i, i < 10 → m' 144 i = m 144 i := fun i hi => by
    have := hm (256 + 4 * i + 1) (by omega)
    rw [kq_keepsTold_77_1 i hi] at this
    exact this
  have B145 : ∀ i, i < 10 → m' 145 i = m 145 i := fun i hi => by
    have := hm (256 + 4 * i + 2) (by omega)
    rw [kq_keepsTold_77_2 i hi] at this
    exact this
  have B146 : ∀ i, i < 10 → m' 146 i = m 146 i := fun i hi => by
    have := hm (256 + 4 * i + 3) (by omega)
    rw [kq_keepsTold_77_3 i hi] at this
    exact this
  have B143 : ∀ i, i < 36 → m' 143 i = m 143 i := fun i hi => by
    have := hm (296 + 1 * i + 0) (by omega)
    rw [kq_keepsTold_155_0 i hi] at this
    exact this
  have B148 : ∀ i, i < 6 → m' 148 i = m 148 i := fun i hi => by
    have := hm (332 + 1 * i + 0) (by omega)
    rw [kq_keepsTold_185_0 i hi] at this
    exact this
  have B149 : ∀ i, i < 5 → m' 149 i = m 149 i := fun i hi => by
    have := hm (338 + 1 * i + 0) (by omega)
    rw [kq_keepsTold_215_0 i hi] at this
    exact this
  have B127 : ∀ i, i < 64 → m' 127 i = m 127 i := fun i hi => by
    have := hm (343 + 1 * i + 0) (by omega)
    rw [kq_keepsTold_244_0 i hi] at this
    exact this
  have B128 : ∀ i, i < 64 → m' 128 i = m 128 i := fun i hi => by
    have := hm (407 + 1 * i + 0) (by omega)
    rw [kq_keepsTold_274_0 i hi] at this
    exact this
  have B116 : ∀ i, i < 600 → m' 116 i = m 116 i := fun i hi => by
    have := hm (471 + 1 * i + 0) (by omega)
    rw [kq_image_77_0 i hi] at this
    exact this
  have B120 : ∀ i, i < 16 → m' 120 i = m 120 i := fun i hi => by
    have := hm (1072 + 4 * i + 0) (by omega)
    rw [kq_keepsLaw_18_0 i hi] at this
    exact this
  have B121 : ∀ i, i < 16 → m' 121 i = m 121 i := fun i hi => by
    have := hm (1072 + 4 * i + 1) (by omega)
    rw [kq_keepsLaw_18_1 i hi] at this
    exact this
  have B122 : ∀ i, i < 16 → m' 122 i = m 122 i := fun i hi => by
    have := hm (1072 + 4 * i + 2) (by omega)
    rw [kq_keepsLaw_18_2 i hi] at this
    exact this
  have B123 : ∀ i, i < 16 → m' 123 i = m 123 i := fun i hi => by
    have := hm (1072 + 4 * i + 3) (by omega)
    rw [kq_keepsLaw_18_3 i hi] at this
    exact this
  have B124 : ∀ i, i < 400 → m' 124 i = m 124 i := fun i hi => by
    have := hm (1136 + 2 * i + 0) (by omega)
    rw [kq_keepsLaw_96_0 i hi] at this
    exact this
  have B125 : ∀ i, i < 400 → m' 125 i = m 125 i := fun i hi => by
    have := hm (1136 + 2 * i + 1) (by omega)
    rw [kq_keepsLaw_96_1 i hi] at this
    exact this
  have E6 : m' 107 6 = m 107 6 := hm 100 (by decide)
  have E7 : m' 107 7 = m 107 7 := hm 101 (by decide)
  have E37 : m' 107 37 = m 107 37 := hm 102 (by decide)
  have E39 : m' 107 39 = m 107 39 := hm 103 (by decide)
  have E41 : m' 107 41 = m 107 41 := hm 104 (by decide)
  have E46 : m' 107 46 = m 107 46 := hm 105 (by decide)
  have E49 : m' 107 49 = m 107 49 := hm 106 (by decide)
  have E51 : m' 107 51 = m 107 51 := hm 107 (by decide)
  have E55 : m' 107 55 = m 107 55 := hm 108 (by decide)
  have E65 : m' 107 65 = m 107 65 := hm 109 (by decide)
  have E70 : m' 107 70 = m 107 70 := hm 110 (by decide)
  have E72 : m' 107 72 = m 107 72 := hm 111 (by decide)
  have E119 : m' 119 0 = m 119 0 := hm 1071 (by decide)
  obtain ⟨hst, hmv, hbk, hlw, hsp, hcu, hli, hsw, hpk, hbx, hky, hcl, hsh, hrw, hgf, hmi⟩ := h
  refine ⟨?_, ?_, ?_, ?_, ?_, ?_, ?_, ?_, ?_, ?_, ?_, ?_, ?_, ?_, ?_, ?_⟩
  · obtain ⟨s1, ⟨s2, s3⟩, ⟨s4, s5⟩, s6, s7, s8, s9, s10⟩ := hst
    exact ⟨s1, ⟨by rw [F3_5]; exact s2, by rw [F3_6]; exact s3⟩, ⟨by rw [E6]; exact s4, by rw [E7]; exact s5⟩, fun k hk => by rw [A4 k hk, B111 k hk]; exact s6 k hk, fun k hk => by rw [A5 k hk, B112 k hk]; exact s7 k hk, fun k hk => by rw [A6 k hk, B113 k hk]; exact s8 k hk, fun k hk => by rw [A7 k hk, B114 k hk]; exact s9 k hk, fun k hk => by rw [A8 k hk, B115 k hk]; exact s10 k hk⟩
  · obtain ⟨⟨v1, v2⟩, v3, ⟨v4, v5⟩, v6, v7, v8, v9, v10, v11, v12, v13, v14⟩ := hmv
    have bits : ∀ (s s' : Int32) (k L p : Nat), s' = s → k + L ≤ 100 → r_bits s (m 108) k L p → r_bits s' (m' 108) k L p := fun s s' k L p e hk hb => by
      subst e
      exact ⟨fun t ht => by rw [B108 (k + t) (by omega)]; exact hb.1 t ht, hb.2⟩
    refine ⟨⟨fun t ht => by rw [A10 t ht, B108 (28 + t) (by omega)]; exact v1 t ht, fun t ht => by rw [A10 t ht]; exact v2 t ht⟩, fun t ht => by rw [A11 t ht, B108 (44 + t) (by omega)]; exact v3 t ht, ⟨fun t ht => by rw [A12 t ht, B108 (88 + t) (by omega)]; exact v4 t ht, fun t h1 ht => by rw [A12 t ht]; exact v5 t h1 ht⟩, fun t ht => by rw [A13 t ht, B108 (16 + t) (by omega)]; exact v6 t ht, bits _ _ _ _ _ F9_5 (by decide) v7, bits _ _ _ _ _ F9_6 (by decide) v8, bits _ _ _ _ _ F9_7 (by decide) v9, by rw [F9_8, B108 3 (by decide)]; exact v10, by rw [F9_9, B108 0 (by decide)]; exact v11, by rw [F9_10, B108 1 (by decide)]; exact v12, by rw [F9_11, B108 2 (by decide)]; exact v13, by rw [F9_11]; exact v14⟩
  · exact fun k hk => by rw [A15 k hk, B116 k hk]; exact hbk k hk
  · obtain ⟨ls, l1, l2, l3, l4⟩ := hlw
    refine ⟨ls, l1, by rw [F16_6]; exact l2, by rw [E119]; exact l3, fun i x hx => ?_⟩
    have hi : i < 16 := Nat.lt_of_lt_of_le (ge_lt hx) l1
    obtain ⟨g1, g2, g3, ⟨f, a1, a2, a3, a4, a5, a6⟩, f', b1, b2, b3, b4, b5, b6⟩ := l4 i x hx
    refine ⟨g1, g2, g3, ⟨f, by rw [A18 i hi]; exact a1, by rw [A19 i hi]; exact a2, by rw [A20 i hi]; exact a3, by rw [A21 i hi]; exact a4, a5, fun k y hy => ?_⟩, f', by rw [B120 i hi]; exact b1, by rw [B121 i hi]; exact b2, by rw [B122 i hi]; exact b3, by rw [B123 i hi]; exact b4, b5, fun k y hy => ?_⟩
    · have := ge_lt hy
      rw [A17 (f + k) (by omega)]
      exact a6 k y hy
    · have := ge_lt hy
      rw [B124 (f' + k) (by omega), B125 (f' + k) (by omega)]
      exact b6 k y hy
  · obtain ⟨k, k1, k2, k3, k4, k5⟩ := hsp
    exact ⟨k, k1, by rw [F22_3]; exact k2, by rw [E37]; exact k3, fun i hi => by rw [A23 i (by omega), B127 i (by omega)]; exact k4 i hi, fun i hi => by rw [A23 (4 * i + 1) (by omega), A23 (4 * i + 2) (by omega), A23 (4 * i + 3) (by omega)]; exact k5 i hi⟩
  · obtain ⟨k, k1, k2, k3, k4, k5⟩ := hcu
    exact ⟨k, k1, by rw [F24_3]; exact k2, by rw [E39]; exact k3, fun i hi => by rw [A25 i (by omega), B128 i (by omega)]; exact k4 i hi, fun i hi => by rw [A25 (4 * i + 1) (by omega), A25 (4 * i + 2) (by omega), A25 (4 * i + 3) (by omega)]; exact k5 i hi⟩
  · obtain ⟨ps, k1, k2, k3, k4, k5, k6⟩ := hli
    exact ⟨ps, k1, by rw [F26_3]; exact k2, by rw [E41]; exact k3, fun i x hx => by
      have := ge_lt hx
      rw [A27 (4 * i) (by omega), A27 (4 * i + 1) (by omega)]
      exact k4 i x hx, fun a ha t => by rw [B129 a ha]; exact k5 a ha t, k6⟩
  · obtain ⟨ps, k1, k2, k3, k4⟩ := hsw
    exact ⟨ps, k1, by rw [F29_3]; exact k2, by rw [E46]; exact k3, fun i x hx => by
      have := ge_lt hx
      rw [A30 (2 * i) (by omega), A30 (2 * i + 1) (by omega), B133 i (by omega), B134 i (by omega)]
      exact k4 i x hx⟩
  · obtain ⟨ps, k1, k2, k3, k4⟩ := hpk
    exact ⟨ps, k1, by rw [F31_3]; exact k2, by rw [E49]; exact k3, fun i x hx => by
      have := ge_lt hx
      rw [A32 i (by omega), B135 i (by omega)]
      exact k4 i x hx⟩
  · obtain ⟨ps, k1, k2, k3, k4⟩ := hbx
    exact ⟨ps, k1, by rw [F33_3]; exact k2, by rw [E51]; exact k3, fun i x hx => by
      have := ge_lt hx
      rw [A34 (2 * i) (by omega), A34 (2 * i + 1) (by omega), B136 i (by omega), B137 i (by omega)]
      exact k4 i x hx⟩
  · obtain ⟨ps, k1, k2, k3, k4, k5⟩ := hky
    exact ⟨ps, k1, by rw [F35_3]; exact k2, by rw [E55]; exact k3, fun i x hx => by
      have := ge_lt hx
      rw [A36 (2 * i) (by omega), A36 (2 * i + 1) (by omega)]
      exact k4 i x hx, fun a ha t => by rw [B139 a ha]; exact k5 a ha t⟩
  · obtain ⟨ps, k1, k2, k3, k4⟩ := hcl
    exact ⟨ps, k1, by rw [F37_3]; exact k2, by rw [E65]; exact k3, fun i x hx => by
      have := ge_lt hx
      rw [A38 (3 * i) (by omega), A38 (3 * i + 1) (by omega), A38 (3 * i + 2) (by omega), B144 i (by omega), B145 i (by omega), B146 i (by omega)]
      exact k4 i x hx⟩
  · obtain ⟨ps, k1, k2, k3, k4⟩ := hsh
    exact ⟨ps, k1, by rw [F39_3]; exact k2, by rw [E70]; exact k3, fun i x hx => by
      have := ge_lt hx
      rw [A40 i (by omega), B148 i (by omega)]
      exact k4 i x hx⟩
  · obtain ⟨ps, k1, k2, k3, k4⟩ := hrw
    exact ⟨ps, k1, by rw [F41_3]; exact k2, by rw [E72]; exact k3, fun i x hx => by
      have := ge_lt hx
      rw [A42 i (by omega), B149 i (by omega)]
      exact k4 i x hx⟩
  · exact fun k hk => by rw [A43 k hk, B141 k hk]; exact hgf k hk
  · exact fun k hk => by rw [A44 k hk, B143 k hk]; exact hmi k hk
