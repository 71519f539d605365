/-! ===== a Moving and its row change together ===== -/
/-- a set and its row with place v changed -/
theorem r_bits_set {s : Int32} {row : Nat → Int32} {k m p v : Nat} {on : Bool} (h : r_bits s row k m p) (hv : v < m) (hm : m ≤ 32) (hp : v < p) : r_bits (sb s v on) (upd row (k + v) (cb on)) k m p := by
  refine ⟨fun t ht => ?_, fun t ht => ?_⟩
  · rw [b_sb (by omega)]
    by_cases e : t = v
    · subst e
      rw [if_pos rfl, upd_eq]
      cases on
      · exact Or.inr ⟨rfl, rfl⟩
      · exact Or.inl ⟨rfl, rfl⟩
    · rw [if_neg e, upd_ne (by omega)]
      exact h.1 t ht
  · rw [b_sb (by omega), if_neg (by omega)]
    exact h.2 t ht
theorem r_bits_row {s : Int32} {row row' : Nat → Int32} {k m p : Nat} (h : r_bits s row k m p) (he : ∀ t, t < m → row' (k + t) = row (k + t)) : r_bits s row' k m p := ⟨fun t ht => by rw [he t ht]; exact h.1 t ht, h.2⟩
theorem r_bits_p {s : Int32} {row : Nat → Int32} {k m p p' : Nat} (h : r_bits s row k m p) (hp : p ≤ p') : r_bits s row k m p' := ⟨h.1, fun t ht => h.2 t (by omega)⟩
theorem r_mov_n {lost tied locked found hour draws lines : Int32} {i mv pa se row : Nat → Int32} {n q : Nat} {n' q' : Nat} (h : r_mov lost tied locked found hour draws lines i mv pa se row n q) (hn : n ≤ n') (hq : q ≤ q') : r_mov lost tied locked found hour draws lines i mv pa se row n' q' := by
  obtain ⟨m1, m2, m3, m4, m5, m6, m7, m8, m9, m10, m11⟩ := h
  exact ⟨m1, m2, ⟨m3.1, fun t h1 h2 => m3.2 t (by omega) h2⟩, m4, r_bits_p m5 hn, r_bits_p m6 hq, m7, m8, m9, m10, m11⟩
theorem r_mov_row {lost tied locked found hour draws lines : Int32} {i mv pa se row : Nat → Int32} {n q : Nat} {row' : Nat → Int32} (h : r_mov lost tied locked found hour draws lines i mv pa se row n q) (he : ∀ t, t < 100 → row' t = row t) : r_mov lost tied locked found hour draws lines i mv pa se row' n q := by
  obtain ⟨m1, m2, m3, m4, m5, m6, m7, m8, m9, m10, m11⟩ := h
  exact ⟨⟨fun t ht => by rw [he _ (by omega)]; exact m1.1 t ht, m1.2⟩, fun t ht => by rw [he _ (by omega)]; exact m2 t ht, ⟨fun t ht => by rw [he _ (by omega)]; exact m3.1 t ht, m3.2⟩, fun t ht => by rw [he _ (by omega)]; exact m4 t ht, r_bits_row m5 (fun t ht => he _ (by omega)), r_bits_row m6 (fun t ht => he _ (by omega)), r_bits_row m7 (fun t ht => he _ (by omega)), by rw [he _ (by omega)]; exact m8, by rw [he _ (by omega)]; exact m9, by rw [he _ (by omega)]; exact m10, by rw [he _ (by omega)]; exact m11.1, m11.2⟩
/-- what isn't read of the Moving's rows may differ -/
theorem r_mov_cells {lost tied locked found hour draws lines : Int32} {i mv pa se row : Nat → Int32} {n q : Nat} {i' mv' pa' se' : Nat → Int32} (h : r_mov lost tied locked found hour draws lines i mv pa se row n q) (h1 : ∀ t, t < 16 → i' t = i t) (h2 : ∀ t, t < 16 → mv' t = mv t) (h3 : ∀ t, t < 12 → pa' t = pa t) (h4 : ∀ t, t < 12 → se' t = se t) : r_mov lost tied locked found hour draws lines i' mv' pa' se' row n q := by
  obtain ⟨m1, m2, m3, m4, m5⟩ := h
  exact ⟨⟨fun t ht => by rw [h1 t ht]; exact m1.1 t ht, fun t ht => by rw [h1 t ht]; exact m1.2 t ht⟩, fun t ht => by rw [h2 t ht]; exact m2 t ht, ⟨fun t ht => by rw [h3 t ht]; exact m3.1 t ht, fun t g1 g2 => by rw [h3 t g2]; exact m3.2 t g1 g2⟩, fun t ht => by rw [h4 t ht]; exact m4 t ht, m5⟩
theorem r_mov_i {lost tied locked found hour draws lines : Int32} {i mv pa se row : Nat → Int32} {n q : Nat} {k j : Nat} (hk : k < 16) (hj : j < 12) (h : r_mov lost tied locked found hour draws lines i mv pa se row n q) : r_mov lost tied locked found hour draws lines (upd i k (nI j)) mv pa se (upd row (28 + k) (nI j)) n q := by
  obtain ⟨m1, m2, m3, m4, m5, m6, m7, m8, m9, m10, m11⟩ := h
  exact ⟨⟨fun t ht => by
      by_cases e : t = k
      · rw [e, upd_eq, upd_eq]
      · rw [upd_ne e, upd_ne (by omega)]; exact m1.1 t ht, fun t ht => by
      by_cases e : t = k
      · rw [e, upd_eq]; exact ⟨j, hj, rfl⟩
      · rw [upd_ne e]; exact m1.2 t ht⟩,
    fun t ht => by rw [upd_ne (by omega)]; exact m2 t ht,
    ⟨fun t ht => by rw [upd_ne (by omega)]; exact m3.1 t ht, m3.2⟩,
    fun t ht => by rw [upd_ne (by omega)]; exact m4 t ht,
    r_bits_row m5 (fun t ht => by rw [upd_ne (by omega)]),
    r_bits_row m6 (fun t ht => by rw [upd_ne (by omega)]),
    r_bits_row m7 (fun t ht => by rw [upd_ne (by omega)]),
    by rw [upd_ne (by omega)]; exact m8,
    by rw [upd_ne (by omega)]; exact m9,
    by rw [upd_ne (by omega)]; exact m10,
    ⟨by rw [upd_ne (by omega)]; exact m11.1, m11.2⟩⟩
theorem r_mov_mv {lost tied locked found hour draws lines : Int32} {i mv pa se row : Nat → Int32} {n q : Nat} {k : Nat} {v : Int32} (hk : k < 16) (h : r_mov lost tied locked found hour draws lines i mv pa se row n q) : r_mov lost tied locked found hour draws lines i (upd mv k v) pa se (upd row (44 + k) v) n q := by
  obtain ⟨m1, m2, m3, m4, m5, m6, m7, m8, m9, m10, m11⟩ := h
  exact ⟨⟨fun t ht => by rw [upd_ne (by omega)]; exact m1.1 t ht, m1.2⟩,
    fun t ht => by
      by_cases e : t = k
      · rw [e, upd_eq, upd_eq]
      · rw [upd_ne e, upd_ne (by omega)]; exact m2 t ht,
    ⟨fun t ht => by rw [upd_ne (by omega)]; exact m3.1 t ht, m3.2⟩,
    fun t ht => by rw [upd_ne (by omega)]; exact m4 t ht,
    r_bits_row m5 (fun t ht => by rw [upd_ne (by omega)]),
    r_bits_row m6 (fun t ht => by rw [upd_ne (by omega)]),
    r_bits_row m7 (fun t ht => by rw [upd_ne (by omega)]),
    by rw [upd_ne (by omega)]; exact m8,
    by rw [upd_ne (by omega)]; exact m9,
    by rw [upd_ne (by omega)]; exact m10,
    ⟨by rw [upd_ne (by omega)]; exact m11.1, m11.2⟩⟩
theorem r_mov_pa {lost tied locked found hour draws lines : Int32} {i mv pa se row : Nat → Int32} {n q : Nat} {k : Nat} {v : Int32} (hk : k < 12) (hkq : k < q) (h : r_mov lost tied locked found hour draws lines i mv pa se row n q) : r_mov lost tied locked found hour draws lines i mv (upd pa k v) se (upd row (88 + k) v) n q := by
  obtain ⟨m1, m2, m3, m4, m5, m6, m7, m8, m9, m10, m11⟩ := h
  exact ⟨⟨fun t ht => by rw [upd_ne (by omega)]; exact m1.1 t ht, m1.2⟩,
    fun t ht => by rw [upd_ne (by omega)]; exact m2 t ht,
    ⟨fun t ht => by
      by_cases e : t = k
      · rw [e, upd_eq, upd_eq]
      · rw [upd_ne e, upd_ne (by omega)]; exact m3.1 t ht, fun t h1 h2 => by rw [upd_ne (by omega)]; exact m3.2 t h1 h2⟩,
    fun t ht => by rw [upd_ne (by omega)]; exact m4 t ht,
    r_bits_row m5 (fun t ht => by rw [upd_ne (by omega)]),
    r_bits_row m6 (fun t ht => by rw [upd_ne (by omega)]),
    r_bits_row m7 (fun t ht => by rw [upd_ne (by omega)]),
    by rw [upd_ne (by omega)]; exact m8,
    by rw [upd_ne (by omega)]; exact m9,
    by rw [upd_ne (by omega)]; exact m10,
    ⟨by rw [upd_ne (by omega)]; exact m11.1, m11.2⟩⟩
theorem r_mov_se {lost tied locked found hour draws lines : Int32} {i mv pa se row : Nat → Int32} {n q : Nat} {k : Nat} {v : Int32} (hk : k < 12) (h : r_mov lost tied locked found hour draws lines i mv pa se row n q) : r_mov lost tied locked found hour draws lines i mv pa (upd se k v) (upd row (16 + k) v) n q := by
  obtain ⟨m1, m2, m3, m4, m5, m6, m7, m8, m9, m10, m11⟩ := h
  exact ⟨⟨fun t ht => by rw [upd_ne (by omega)]; exact m1.1 t ht, m1.2⟩,
    fun t ht => by rw [upd_ne (by omega)]; exact m2 t ht,
    ⟨fun t ht => by rw [upd_ne (by omega)]; exact m3.1 t ht, m3.2⟩,
    fun t ht => by
      by_cases e : t = k
      · rw [e, upd_eq, upd_eq]
      · rw [upd_ne e, upd_ne (by omega)]; exact m4 t ht,
    r_bits_row m5 (fun t ht => by rw [upd_ne (by omega)]),
    r_bits_row m6 (fun t ht => by rw [upd_ne (by omega)]),
    r_bits_row m7 (fun t ht => by rw [upd_ne (by omega)]),
    by rw [upd_ne (by omega)]; exact m8,
    by rw [upd_ne (by omega)]; exact m9,
    by rw [upd_ne (by omega)]; exact m10,
    ⟨by rw [upd_ne (by omega)]; exact m11.1, m11.2⟩⟩
theorem r_mov_lost {lost tied locked found hour draws lines : Int32} {i mv pa se row : Nat → Int32} {n q : Nat} {k : Nat} {on : Bool} (hk : k < 16) (hkn : k < n) (h : r_mov lost tied locked found hour draws lines i mv pa se row n q) : r_mov (sb lost k on) tied locked found hour draws lines i mv pa se (upd row (60 + k) (cb on)) n q := by
  obtain ⟨m1, m2, m3, m4, m5, m6, m7, m8, m9, m10, m11⟩ := h
  exact ⟨⟨fun t ht => by rw [upd_ne (by omega)]; exact m1.1 t ht, m1.2⟩,
    fun t ht => by rw [upd_ne (by omega)]; exact m2 t ht,
    ⟨fun t ht => by rw [upd_ne (by omega)]; exact m3.1 t ht, m3.2⟩,
    fun t ht => by rw [upd_ne (by omega)]; exact m4 t ht,
    r_bits_set m5 hk (by decide) hkn,
    r_bits_row m6 (fun t ht => by rw [upd_ne (by omega)]),
    r_bits_row m7 (fun t ht => by rw [upd_ne (by omega)]),
    by rw [upd_ne (by omega)]; exact m8,
    by rw [upd_ne (by omega)]; exact m9,
    by rw [upd_ne (by omega)]; exact m10,
    ⟨by rw [upd_ne (by omega)]; exact m11.1, m11.2⟩⟩
theorem r_mov_tied {lost tied locked found hour draws lines : Int32} {i mv pa se row : Nat → Int32} {n q : Nat} {k : Nat} {on : Bool} (hk : k < 12) (hkq : k < q) (h : r_mov lost tied locked found hour draws lines i mv pa se row n q) : r_mov lost (sb tied k on) locked found hour draws lines i mv pa se (upd row (76 + k) (cb on)) n q := by
  obtain ⟨m1, m2, m3, m4, m5, m6, m7, m8, m9, m10, m11⟩ := h
  exact ⟨⟨fun t ht => by rw [upd_ne (by omega)]; exact m1.1 t ht, m1.2⟩,
    fun t ht => by rw [upd_ne (by omega)]; exact m2 t ht,
    ⟨fun t ht => by rw [upd_ne (by omega)]; exact m3.1 t ht, m3.2⟩,
    fun t ht => by rw [upd_ne (by omega)]; exact m4 t ht,
    r_bits_row m5 (fun t ht => by rw [upd_ne (by omega)]),
    r_bits_set m6 hk (by decide) hkq,
    r_bits_row m7 (fun t ht => by rw [upd_ne (by omega)]),
    by rw [upd_ne (by omega)]; exact m8,
    by rw [upd_ne (by omega)]; exact m9,
    by rw [upd_ne (by omega)]; exact m10,
    ⟨by rw [upd_ne (by omega)]; exact m11.1, m11.2⟩⟩
theorem r_mov_locked {lost tied locked found hour draws lines : Int32} {i mv pa se row : Nat → Int32} {n q : Nat} {k : Nat} {on : Bool} (hk : k < 12) (h : r_mov lost tied locked found hour draws lines i mv pa se row n q) : r_mov lost tied (sb locked k on) found hour draws lines i mv pa se (upd row (4 + k) (cb on)) n q := by
  obtain ⟨m1, m2, m3, m4, m5, m6, m7, m8, m9, m10, m11⟩ := h
  exact ⟨⟨fun t ht => by rw [upd_ne (by omega)]; exact m1.1 t ht, m1.2⟩,
    fun t ht => by rw [upd_ne (by omega)]; exact m2 t ht,
    ⟨fun t ht => by rw [upd_ne (by omega)]; exact m3.1 t ht, m3.2⟩,
    fun t ht => by rw [upd_ne (by omega)]; exact m4 t ht,
    r_bits_row m5 (fun t ht => by rw [upd_ne (by omega)]),
    r_bits_row m6 (fun t ht => by rw [upd_ne (by omega)]),
    r_bits_set m7 hk (by decide) hk,
    by rw [upd_ne (by omega)]; exact m8,
    by rw [upd_ne (by omega)]; exact m9,
    by rw [upd_ne (by omega)]; exact m10,
    ⟨by rw [upd_ne (by omega)]; exact m11.1, m11.2⟩⟩
theorem r_mov_found {lost tied locked found hour draws lines : Int32} {i mv pa se row : Nat → Int32} {n q : Nat} {v : Int32} (h : r_mov lost tied locked found hour draws lines i mv pa se row n q) : r_mov lost tied locked v hour draws lines i mv pa se (upd row 3 v) n q := by
  obtain ⟨m1, m2, m3, m4, m5, m6, m7, m8, m9, m10, m11⟩ := h
  exact ⟨⟨fun t ht => by rw [upd_ne (by omega)]; exact m1.1 t ht, m1.2⟩,
    fun t ht => by rw [upd_ne (by omega)]; exact m2 t ht,
    ⟨fun t ht => by rw [upd_ne (by omega)]; exact m3.1 t ht, m3.2⟩,
    fun t ht => by rw [upd_ne (by omega)]; exact m4 t ht,
    r_bits_row m5 (fun t ht => by rw [upd_ne (by omega)]),
    r_bits_row m6 (fun t ht => by rw [upd_ne (by omega)]),
    r_bits_row m7 (fun t ht => by rw [upd_ne (by omega)]),
    upd_eq.symm,
    by rw [upd_ne (by omega)]; exact m9,
    by rw [upd_ne (by omega)]; exact m10,
    ⟨by rw [upd_ne (by omega)]; exact m11.1, m11.2⟩⟩
theorem r_mov_hour {lost tied locked found hour draws lines : Int32} {i mv pa se row : Nat → Int32} {n q : Nat} {v : Int32} (h : r_mov lost tied locked found hour draws lines i mv pa se row n q) : r_mov lost tied locked found v draws lines i mv pa se (upd row 0 v) n q := by
  obtain ⟨m1, m2, m3, m4, m5, m6, m7, m8, m9, m10, m11⟩ := h
  exact ⟨⟨fun t ht => by rw [upd_ne (by omega)]; exact m1.1 t ht, m1.2⟩,
    fun t ht => by rw [upd_ne (by omega)]; exact m2 t ht,
    ⟨fun t ht => by rw [upd_ne (by omega)]; exact m3.1 t ht, m3.2⟩,
    fun t ht => by rw [upd_ne (by omega)]; exact m4 t ht,
    r_bits_row m5 (fun t ht => by rw [upd_ne (by omega)]),
    r_bits_row m6 (fun t ht => by rw [upd_ne (by omega)]),
    r_bits_row m7 (fun t ht => by rw [upd_ne (by omega)]),
    by rw [upd_ne (by omega)]; exact m8,
    upd_eq.symm,
    by rw [upd_ne (by omega)]; exact m10,
    ⟨by rw [upd_ne (by omega)]; exact m11.1, m11.2⟩⟩
theorem r_mov_draws {lost tied locked found hour draws lines : Int32} {i mv pa se row : Nat → Int32} {n q : Nat} {v : Int32} (h : r_mov lost tied locked found hour draws lines i mv pa se row n q) : r_mov lost tied locked found hour v lines i mv pa se (upd row 1 v) n q := by
  obtain ⟨m1, m2, m3, m4, m5, m6, m7, m8, m9, m10, m11⟩ := h
  exact ⟨⟨fun t ht => by rw [upd_ne (by omega)]; exact m1.1 t ht, m1.2⟩,
    fun t ht => by rw [upd_ne (by omega)]; exact m2 t ht,
    ⟨fun t ht => by rw [upd_ne (by omega)]; exact m3.1 t ht, m3.2⟩,
    fun t ht => by rw [upd_ne (by omega)]; exact m4 t ht,
    r_bits_row m5 (fun t ht => by rw [upd_ne (by omega)]),
    r_bits_row m6 (fun t ht => by rw [upd_ne (by omega)]),
    r_bits_row m7 (fun t ht => by rw [upd_ne (by omega)]),
    by rw [upd_ne (by omega)]; exact m8,
    by rw [upd_ne (by omega)]; exact m9,
    upd_eq.symm,
    ⟨by rw [upd_ne (by omega)]; exact m11.1, m11.2⟩⟩
theorem r_mov_lines {lost tied locked found hour draws lines : Int32} {i mv pa se row : Nat → Int32} {n q : Nat} {k : Nat} (hk : k ≤ 150) (h : r_mov lost tied locked found hour draws lines i mv pa se row n q) : r_mov lost tied locked found hour draws (nI k) i mv pa se (upd row 2 (nI k)) n q := by
  obtain ⟨m1, m2, m3, m4, m5, m6, m7, m8, m9, m10, m11⟩ := h
  exact ⟨⟨fun t ht => by rw [upd_ne (by omega)]; exact m1.1 t ht, m1.2⟩,
    fun t ht => by rw [upd_ne (by omega)]; exact m2 t ht,
    ⟨fun t ht => by rw [upd_ne (by omega)]; exact m3.1 t ht, m3.2⟩,
    fun t ht => by rw [upd_ne (by omega)]; exact m4 t ht,
    r_bits_row m5 (fun t ht => by rw [upd_ne (by omega)]),
    r_bits_row m6 (fun t ht => by rw [upd_ne (by omega)]),
    r_bits_row m7 (fun t ht => by rw [upd_ne (by omega)]),
    by rw [upd_ne (by omega)]; exact m8,
    by rw [upd_ne (by omega)]; exact m9,
    by rw [upd_ne (by omega)]; exact m10,
    ⟨upd_eq.symm, k, hk, rfl⟩⟩
