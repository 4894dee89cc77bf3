/-! The pure part: what is asked of the hour as it stands. -/
theorem A_element : zA_element Rel := by
  intro v u hR p1 p2 F
  have hR0 := hR
  obtain ⟨⟨n, m, k, g1, g2, g3⟩, -, -⟩ := hR
  have hn := g1.1.1
  have hel := x7isE g1.1 p1
  rcases x0has g1.1 p1 with ⟨b1, i, hi, rfl⟩ | ⟨b1, b2⟩
  rotate_left
  · refine agL_t (F := F) (k := 1) hR0 (by decide) ?_ ?_
    · unfold f_L_element f_X6_element
      rw [b1, Option.bind_some, if_pos zb0]
      rfl
    · unfold f_X7_element
      rw [hel, b1, Option.bind_some, if_pos zb0]
      rfl
  by_cases a1 : p2 < 0
  · refine agL_t (F := F) (k := 2) hR0 (by decide) ?_ ?_
    · unfold f_L_element f_X6_element
      rw [b1, Option.bind_some, if_neg zb1, if_pos a1]
      rfl
    · unfold f_X7_element
      rw [hel, b1, Option.bind_some, if_neg zb1, in7f (Or.inl a1), Option.bind_some, if_pos zb0]
      rfl
  by_cases a2 : p2 ≤ 6
  rotate_left
  · refine agL_t (F := F) (k := 2) hR0 (by decide) ?_ ?_
    · unfold f_L_element f_X6_element
      rw [b1, Option.bind_some, if_neg zb1, if_neg a1, if_neg a2]
      rfl
    · unfold f_X7_element
      rw [hel, b1, Option.bind_some, if_neg zb1, in7f (Or.inr (Int32.not_le.mp a2)), Option.bind_some, if_pos zb0]
      rfl
  have a12 : f_X7_in p2 0 6 = some true := in7t a1 (Int32.not_lt.mpr a2)
  obtain ⟨w, hw, rfl⟩ : ∃ w : Nat, w ≤ 6 ∧ p2 = nI w := nI_of2 (M := 6) (n := 6) rfl a1 a2
  obtain ⟨b, c1, c2⟩ := tell2 (u := u) g1.1 hi hw
  refine agL_o (F := F) (v := v) (u := uT u 0) (b := b) hR0 rfl ?_ ?_
  · unfold f_L_element f_X6_element
    rw [b1, Option.bind_some, if_neg zb1, if_neg a1, if_pos a2, c1]
    rfl
  · unfold f_X7_element
    rw [hel, b1, Option.bind_some, if_neg zb1, a12, Option.bind_some, if_neg zb1, c2]
    rfl
theorem A_filler : zA_filler Rel := by
  intro v u hR p1 p2 F
  have hR0 := hR
  obtain ⟨⟨n, m, k, g1, g2, g3⟩, -, -⟩ := hR
  have hm := g1.2.1.1
  have hel := x7isF g1.2.1 p1
  rcases x1has g1.2.1 p1 with ⟨b1, i, hi, rfl⟩ | ⟨b1, b2⟩
  rotate_left
  · refine agL_t (F := F) (k := 1) hR0 (by decide) ?_ ?_
    · unfold f_L_filler f_X6_filler
      rw [b1, Option.bind_some, if_pos zb0]
      rfl
    · unfold f_X7_filler
      rw [hel, b1, Option.bind_some, if_pos zb0]
      rfl
  by_cases a1 : p2 < 0
  · refine agL_t (F := F) (k := 2) hR0 (by decide) ?_ ?_
    · unfold f_L_filler f_X6_filler
      rw [b1, Option.bind_some, if_neg zb1, if_pos a1]
      rfl
    · unfold f_X7_filler
      rw [hel, b1, Option.bind_some, if_neg zb1, in7f (Or.inl a1), Option.bind_some, if_pos zb0]
      rfl
  by_cases a2 : p2 ≤ 2
  rotate_left
  · refine agL_t (F := F) (k := 2) hR0 (by decide) ?_ ?_
    · unfold f_L_filler f_X6_filler
      rw [b1, Option.bind_some, if_neg zb1, if_neg a1, if_neg a2]
      rfl
    · unfold f_X7_filler
      rw [hel, b1, Option.bind_some, if_neg zb1, in7f (Or.inr (Int32.not_le.mp a2)), Option.bind_some, if_pos zb0]
      rfl
  have a12 : f_X7_in p2 0 2 = some true := in7t a1 (Int32.not_lt.mpr a2)
  obtain ⟨w, hw, rfl⟩ : ∃ w : Nat, w ≤ 2 ∧ p2 = nI w := nI_of2 (M := 2) (n := 2) rfl a1 a2
  obtain ⟨b, c1, c2, -⟩ := tellF2 (u := u) g1.2.1 hi hw
  refine agL_o (F := F) (v := v) (u := uT u 0) (b := b) hR0 rfl ?_ ?_
  · unfold f_L_filler f_X6_filler
    rw [b1, Option.bind_some, if_neg zb1, if_neg a1, if_pos a2, c1]
    rfl
  · unfold f_X7_filler
    rw [hel, b1, Option.bind_some, if_neg zb1, a12, Option.bind_some, if_neg zb1, c2]
    rfl
theorem A_entry : zA_entry Rel := by
  intro v u hR p1 p2 F
  have hR0 := hR
  obtain ⟨⟨n, m, k, g1, g2, g3⟩, -, -⟩ := hR
  have hk := g2.1
  have h9 : u.1 9 = nI k := g2.2.2.1
  rcases x3has g2 p1 with ⟨b1, i, hi, rfl⟩ | ⟨b1, b2⟩
  rotate_left
  · refine agL_t (F := F) (k := 1) hR0 (by decide) ?_ ?_
    · unfold f_L_entry f_X6_entry
      rw [b1, Option.bind_some, if_pos zb0]
      rfl
    · unfold f_X7_entry
      rcases b2 with b2 | ⟨b2, b3⟩
      · rw [if_pos b2]
        rfl
      · rw [if_neg b2, h9, if_neg (Int32.not_lt.mpr b3)]
        rfl
  have i0 : ¬ nI i < 0 := of_eq_false (neg_n (by omega))
  have i9 : nI i < u.1 9 := by
    rw [h9, nI_ltI (by omega) (by omega)]; exact hi
  by_cases a1 : p2 < 0
  · refine agL_t (F := F) (k := 2) hR0 (by decide) ?_ ?_
    · unfold f_L_entry f_X6_entry
      rw [b1, Option.bind_some, if_neg zb1, if_pos a1]
      rfl
    · unfold f_X7_entry
      rw [if_neg i0, if_pos i9, in7f (Or.inl a1), Option.bind_some, if_pos zb0]
      rfl
  by_cases a2 : p2 ≤ 2
  rotate_left
  · refine agL_t (F := F) (k := 2) hR0 (by decide) ?_ ?_
    · unfold f_L_entry f_X6_entry
      rw [b1, Option.bind_some, if_neg zb1, if_neg a1, if_neg a2]
      rfl
    · unfold f_X7_entry
      rw [if_neg i0, if_pos i9, in7f (Or.inr (Int32.not_le.mp a2)), Option.bind_some, if_pos zb0]
      rfl
  have a12 : f_X7_in p2 0 2 = some true := in7t a1 (Int32.not_lt.mpr a2)
  obtain ⟨w, hw, rfl⟩ : ∃ w : Nat, w ≤ 2 ∧ p2 = nI w := nI_of2 (M := 2) (n := 2) rfl a1 a2
  have c1 := tellL g2 hi hw
  have hix : (100 : Int32) + (3 * nI i) + nI w = nI (100 + 3 * i + w) := by
    rw [show (100 : Int32) = nI 100 from rfl, show (3 : Int32) = nI 3 from rfl, pk_mul, nI_add, nI_add]
  refine agL_o (F := F) (v := v) (u := uT u 0) (b := u.1 (100 + 3 * i + w)) hR0 rfl ?_ ?_
  · unfold f_L_entry f_X6_entry
    rw [b1, Option.bind_some, if_neg zb1, if_neg a1, if_pos a2, c1]
    rfl
  · unfold f_X7_entry
    rw [if_neg i0, if_pos i9, a12, Option.bind_some, if_neg zb1, hix, if_pos (zin_n (by omega) (by omega)), cl_n (by omega)]
    rfl
theorem A_backTime : zA_backTime Rel := by
  intro v u hR p1 F
  have hR0 := hR
  obtain ⟨⟨n, m, k, g1, g2, g3⟩, -, -⟩ := hR
  have hel := x7isE g1.1 p1
  rcases x0has g1.1 p1 with ⟨b1, i, hi, rfl⟩ | ⟨b1, b2⟩
  · obtain ⟨b, c1, c2⟩ := bk2 (u := u) g1.1 hi
    refine agL_o (F := F) (v := v) (u := uT u 0) (b := b) hR0 rfl ?_ ?_
    · unfold f_L_backTime f_X6_backTime
      rw [b1, Option.bind_some, if_neg zb1, c1]
      rfl
    · unfold f_X7_backTime
      rw [hel, b1, Option.bind_some, if_neg zb1, c2]
      rfl
  · refine agL_t (F := F) (k := 1) hR0 (by decide) ?_ ?_
    · unfold f_L_backTime f_X6_backTime
      rw [b1, Option.bind_some, if_pos zb0]
      rfl
    · unfold f_X7_backTime
      rw [hel, b1, Option.bind_some, if_pos zb0]
      rfl
theorem A_choice : zA_choice Rel := by
  intro v u hR p1 F
  have hR0 := hR
  obtain ⟨⟨n, m, k, g1, g2, g3⟩, hS, hT⟩ := hR
  by_cases a1 : p1 < 1
  · refine agL_t (F := F) (k := 1) hR0 (by decide) ?_ ?_
    · unfold f_L_choice f_X6_choice
      rw [if_pos a1]
      rfl
    · unfold f_X7_choice
      rw [in7f (Or.inl a1), Option.bind_some, if_pos zb0]
      rfl
  by_cases a2 : p1 ≤ 3600
  rotate_left
  · refine agL_t (F := F) (k := 1) hR0 (by decide) ?_ ?_
    · unfold f_L_choice f_X6_choice
      rw [if_neg a1, if_neg a2]
      rfl
    · unfold f_X7_choice
      rw [in7f (Or.inr (Int32.not_le.mp a2)), Option.bind_some, if_pos zb0]
      rfl
  have a12 : f_X7_in p1 1 3600 = some true := in7t a1 (Int32.not_lt.mpr a2)
  obtain ⟨B, w, c1, c2, -, -⟩ := choose2 (u := u) g1.2.1 p1
  refine agL_o (F := F) (v := ((v.1.1, (v.1.2.1.1, v.1.2.1.2.1, v.1.2.1.2.2.1, v.1.2.1.2.2.2.1, w), v.1.2.2), v.2)) (u := uT u 0) (b := nI B) ⟨⟨n, m, k, g1, g2, g3⟩, hS, hT⟩ rfl ?_ ?_
  · unfold f_L_choice f_X6_choice
    rw [if_neg a1, if_pos a2, c1]
    rfl
  · unfold f_X7_choice
    rw [a12, Option.bind_some, if_neg zb1, c2]
    rfl
theorem A_nextFull : zA_nextFull Rel := by
  intro v u hR p1 F
  have hR0 := hR
  obtain ⟨⟨n, m, k, g1, g2, g3⟩, hS, hT⟩ := hR
  by_cases a1 : p1 < 0
  · refine agL_t (F := F) (k := 1) hR0 (by decide) ?_ ?_
    · unfold f_L_nextFull f_X6_nextFull
      rw [if_pos a1]
      rfl
    · unfold f_X7_nextFull
      rw [in7f (Or.inl a1), Option.bind_some, if_pos zb0]
      rfl
  by_cases a2 : p1 ≤ 3600
  rotate_left
  · refine agL_t (F := F) (k := 1) hR0 (by decide) ?_ ?_
    · unfold f_L_nextFull f_X6_nextFull
      rw [if_neg a1, if_neg a2]
      rfl
    · unfold f_X7_nextFull
      rw [in7f (Or.inr (Int32.not_le.mp a2)), Option.bind_some, if_pos zb0]
      rfl
  have a12 : f_X7_in p1 0 3600 = some true := in7t a1 (Int32.not_lt.mpr a2)
  obtain ⟨r, w, c1, c2⟩ := full2 (u := u) g1.2.1 (lim := p1) (by
    rw [Int32.lt_iff_toInt_lt, show (0 : Int32).toInt = 0 from rfl] at a1
    omega)
  refine agL_o (F := F) (v := ((v.1.1, (v.1.2.1.1, v.1.2.1.2.1, v.1.2.1.2.2.1, v.1.2.1.2.2.2.1, w), v.1.2.2), v.2)) (u := uT u 0) (b := r) ⟨⟨n, m, k, g1, g2, g3⟩, hS, hT⟩ rfl ?_ ?_
  · unfold f_L_nextFull f_X6_nextFull
    rw [if_neg a1, if_pos a2, c1]
    rfl
  · unfold f_X7_nextFull
    rw [a12, Option.bind_some, if_neg zb1, c2]
    rfl

theorem nI_c {a : Nat} (c : Nat) (ha : a < 1000) (hc : c < 1000) (h : a ≠ c) : ¬ nI a = nI c := by
  rw [nI_eq (by omega) (by omega)]; exact h
theorem val2 {h : HV} {u : MV} {n m k w : Nat} (h0 : HR0 h u.1 n m) (hl : LR h.2.2.1 u.1 k) (hin : pIn u.1 n m k) (hw : w ≤ 13) : ∃ b : Int32, f_X2_tell h (nI w) = some b ∧ f_X7_valueOf u (nI w) = some b := by
  have hn := h0.1.1
  have hm := h0.2.1.1
  obtain ⟨r1, r2, r3, r4, r5, r6, r7, r8⟩ := h0
  rcases (by omega : w = 0 ∨ w = 1 ∨ w = 2 ∨ w = 3 ∨ w = 4 ∨ w = 5 ∨ w = 6 ∨ w = 7 ∨ w = 8 ∨ w = 9 ∨ w = 10 ∨ w = 11 ∨ w = 12 ∨ w = 13) with rfl | rfl | rfl | rfl | rfl | rfl | rfl | rfl | rfl | rfl | rfl | rfl | rfl | rfl
  · refine ⟨nI n, ?_, ?_⟩
    · unfold f_X2_tell
      rw [if_pos (show nI 0 = (0 : Int32) from rfl)]
      rw [r1.2.1]
    · unfold f_X7_valueOf
      rw [if_pos (show nI 0 = (0 : Int32) from rfl)]
      rw [r1.2.2.1]
  · refine ⟨nI m, ?_, ?_⟩
    · unfold f_X2_tell
      rw [if_neg (show ¬ nI 1 = (0 : Int32) by decide), if_pos (show nI 1 = (1 : Int32) from rfl)]
      rw [r2.2.1]
    · unfold f_X7_valueOf
      rw [if_neg (show ¬ nI 1 = (0 : Int32) by decide), if_pos (show nI 1 = (1 : Int32) from rfl)]
      rw [r2.2.2.1]
  · refine ⟨u.1 0, ?_, ?_⟩
    · unfold f_X2_tell
      rw [if_neg (show ¬ nI 2 = (0 : Int32) by decide), if_neg (show ¬ nI 2 = (1 : Int32) by decide), if_pos (show nI 2 = (2 : Int32) from rfl)]
      rw [r3]
    · unfold f_X7_valueOf
      rw [if_neg (show ¬ nI 2 = (0 : Int32) by decide), if_neg (show ¬ nI 2 = (1 : Int32) by decide), if_pos (show nI 2 = (2 : Int32) from rfl)]
  · refine ⟨u.1 1, ?_, ?_⟩
    · unfold f_X2_tell
      rw [if_neg (show ¬ nI 3 = (0 : Int32) by decide), if_neg (show ¬ nI 3 = (1 : Int32) by decide), if_neg (show ¬ nI 3 = (2 : Int32) by decide), if_pos (show nI 3 = (3 : Int32) from rfl)]
      rcases hin.2.2.1 with q | q
      · rw [r4, q, if_pos rfl]
      · rw [r4, q, if_neg (by decide)]
    · unfold f_X7_valueOf
      rw [if_neg (show ¬ nI 3 = (0 : Int32) by decide), if_neg (show ¬ nI 3 = (1 : Int32) by decide), if_neg (show ¬ nI 3 = (2 : Int32) by decide), if_pos (show nI 3 = (3 : Int32) from rfl)]
  · refine ⟨pCn (pS u.1) 0 n 0 0, ?_, ?_⟩
    · unfold f_X2_tell
      rw [if_neg (show ¬ nI 4 = (0 : Int32) by decide), if_neg (show ¬ nI 4 = (1 : Int32) by decide), if_neg (show ¬ nI 4 = (2 : Int32) by decide), if_neg (show ¬ nI 4 = (3 : Int32) by decide), if_pos (show nI 4 = (4 : Int32) from rfl)]
      rw [cn0 r1 0, Option.bind_some]
    · unfold f_X7_valueOf
      rw [if_neg (show ¬ nI 4 = (0 : Int32) by decide), if_neg (show ¬ nI 4 = (1 : Int32) by decide), if_neg (show ¬ nI 4 = (2 : Int32) by decide), if_neg (show ¬ nI 4 = (3 : Int32) by decide), if_pos (show nI 4 = (4 : Int32) from rfl)]
      rw [cn7 hn r1.2.2.1 0, Option.bind_some]
  · refine ⟨pCn (pS u.1) 3 n 0 0, ?_, ?_⟩
    · unfold f_X2_tell
      rw [if_neg (show ¬ nI 5 = (0 : Int32) by decide), if_neg (show ¬ nI 5 = (1 : Int32) by decide), if_neg (show ¬ nI 5 = (2 : Int32) by decide), if_neg (show ¬ nI 5 = (3 : Int32) by decide), if_neg (show ¬ nI 5 = (4 : Int32) by decide), if_pos (show nI 5 = (5 : Int32) from rfl)]
      rw [cn0 r1 3, Option.bind_some]
    · unfold f_X7_valueOf
      rw [if_neg (show ¬ nI 5 = (0 : Int32) by decide), if_neg (show ¬ nI 5 = (1 : Int32) by decide), if_neg (show ¬ nI 5 = (2 : Int32) by decide), if_neg (show ¬ nI 5 = (3 : Int32) by decide), if_neg (show ¬ nI 5 = (4 : Int32) by decide), if_pos (show nI 5 = (5 : Int32) from rfl)]
      rw [cn7 hn r1.2.2.1 3, Option.bind_some]
  · refine ⟨nI (pPop (pWm u.1 m)), ?_, ?_⟩
    · unfold f_X2_tell
      rw [if_neg (show ¬ nI 6 = (0 : Int32) by decide), if_neg (show ¬ nI 6 = (1 : Int32) by decide), if_neg (show ¬ nI 6 = (2 : Int32) by decide), if_neg (show ¬ nI 6 = (3 : Int32) by decide), if_neg (show ¬ nI 6 = (4 : Int32) by decide), if_neg (show ¬ nI 6 = (5 : Int32) by decide), if_pos (show nI 6 = (6 : Int32) from rfl)]
      rw [cw1 r2, Option.bind_some]
    · unfold f_X7_valueOf
      rw [if_neg (show ¬ nI 6 = (0 : Int32) by decide), if_neg (show ¬ nI 6 = (1 : Int32) by decide), if_neg (show ¬ nI 6 = (2 : Int32) by decide), if_neg (show ¬ nI 6 = (3 : Int32) by decide), if_neg (show ¬ nI 6 = (4 : Int32) by decide), if_neg (show ¬ nI 6 = (5 : Int32) by decide), if_pos (show nI 6 = (6 : Int32) from rfl)]
      rw [wm7 hm r2.2.2.1, Option.bind_some, ones7 (by have := pWm_lt u.1 m; have : 2 ^ m ≤ 2 ^ 10 := Nat.pow_le_pow_right (by omega) hm; omega), Option.bind_some]
  · refine ⟨u.1 5, ?_, ?_⟩
    · unfold f_X2_tell
      rw [if_neg (show ¬ nI 7 = (0 : Int32) by decide), if_neg (show ¬ nI 7 = (1 : Int32) by decide), if_neg (show ¬ nI 7 = (2 : Int32) by decide), if_neg (show ¬ nI 7 = (3 : Int32) by decide), if_neg (show ¬ nI 7 = (4 : Int32) by decide), if_neg (show ¬ nI 7 = (5 : Int32) by decide), if_neg (show ¬ nI 7 = (6 : Int32) by decide), if_pos (show nI 7 = (7 : Int32) from rfl)]
      rw [r5]
    · unfold f_X7_valueOf
      rw [if_neg (show ¬ nI 7 = (0 : Int32) by decide), if_neg (show ¬ nI 7 = (1 : Int32) by decide), if_neg (show ¬ nI 7 = (2 : Int32) by decide), if_neg (show ¬ nI 7 = (3 : Int32) by decide), if_neg (show ¬ nI 7 = (4 : Int32) by decide), if_neg (show ¬ nI 7 = (5 : Int32) by decide), if_neg (show ¬ nI 7 = (6 : Int32) by decide), if_pos (show nI 7 = (7 : Int32) from rfl)]
  · obtain ⟨j, t, -, -, -, -, -, e6, e7, -⟩ := goal2 (u := u) r1
    refine ⟨t, ?_, ?_⟩
    · unfold f_X2_tell
      rw [if_neg (show ¬ nI 8 = (0 : Int32) by decide), if_neg (show ¬ nI 8 = (1 : Int32) by decide), if_neg (show ¬ nI 8 = (2 : Int32) by decide), if_neg (show ¬ nI 8 = (3 : Int32) by decide), if_neg (show ¬ nI 8 = (4 : Int32) by decide), if_neg (show ¬ nI 8 = (5 : Int32) by decide), if_neg (show ¬ nI 8 = (6 : Int32) by decide), if_neg (show ¬ nI 8 = (7 : Int32) by decide), if_pos (show nI 8 = (8 : Int32) from rfl)]
      rw [e6, Option.bind_some]
    · unfold f_X7_valueOf
      rw [if_neg (show ¬ nI 8 = (0 : Int32) by decide), if_neg (show ¬ nI 8 = (1 : Int32) by decide), if_neg (show ¬ nI 8 = (2 : Int32) by decide), if_neg (show ¬ nI 8 = (3 : Int32) by decide), if_neg (show ¬ nI 8 = (4 : Int32) by decide), if_neg (show ¬ nI 8 = (5 : Int32) by decide), if_neg (show ¬ nI 8 = (6 : Int32) by decide), if_neg (show ¬ nI 8 = (7 : Int32) by decide), if_pos (show nI 8 = (8 : Int32) from rfl)]
      rw [e7, Option.bind_some]
  · rcases hin.2.2.1 with q | q
    · refine ⟨-1, ?_, ?_⟩
      · unfold f_X2_tell
        rw [if_neg (show ¬ nI 9 = (0 : Int32) by decide), if_neg (show ¬ nI 9 = (1 : Int32) by decide), if_neg (show ¬ nI 9 = (2 : Int32) by decide), if_neg (show ¬ nI 9 = (3 : Int32) by decide), if_neg (show ¬ nI 9 = (4 : Int32) by decide), if_neg (show ¬ nI 9 = (5 : Int32) by decide), if_neg (show ¬ nI 9 = (6 : Int32) by decide), if_neg (show ¬ nI 9 = (7 : Int32) by decide), if_neg (show ¬ nI 9 = (8 : Int32) by decide), if_pos (show nI 9 = (9 : Int32) from rfl)]
        rw [if_pos (r4.trans q)]
      · unfold f_X7_valueOf
        rw [if_neg (show ¬ nI 9 = (0 : Int32) by decide), if_neg (show ¬ nI 9 = (1 : Int32) by decide), if_neg (show ¬ nI 9 = (2 : Int32) by decide), if_neg (show ¬ nI 9 = (3 : Int32) by decide), if_neg (show ¬ nI 9 = (4 : Int32) by decide), if_neg (show ¬ nI 9 = (5 : Int32) by decide), if_neg (show ¬ nI 9 = (6 : Int32) by decide), if_neg (show ¬ nI 9 = (7 : Int32) by decide), if_neg (show ¬ nI 9 = (8 : Int32) by decide), if_pos (show nI 9 = (9 : Int32) from rfl)]
        rw [if_neg (by rw [q]; decide)]
    · refine ⟨u.1 0 - 3600, ?_, ?_⟩
      · unfold f_X2_tell
        rw [if_neg (show ¬ nI 9 = (0 : Int32) by decide), if_neg (show ¬ nI 9 = (1 : Int32) by decide), if_neg (show ¬ nI 9 = (2 : Int32) by decide), if_neg (show ¬ nI 9 = (3 : Int32) by decide), if_neg (show ¬ nI 9 = (4 : Int32) by decide), if_neg (show ¬ nI 9 = (5 : Int32) by decide), if_neg (show ¬ nI 9 = (6 : Int32) by decide), if_neg (show ¬ nI 9 = (7 : Int32) by decide), if_neg (show ¬ nI 9 = (8 : Int32) by decide), if_pos (show nI 9 = (9 : Int32) from rfl)]
        rw [if_neg (by rw [r4, q]; decide), r3]
      · unfold f_X7_valueOf
        rw [if_neg (show ¬ nI 9 = (0 : Int32) by decide), if_neg (show ¬ nI 9 = (1 : Int32) by decide), if_neg (show ¬ nI 9 = (2 : Int32) by decide), if_neg (show ¬ nI 9 = (3 : Int32) by decide), if_neg (show ¬ nI 9 = (4 : Int32) by decide), if_neg (show ¬ nI 9 = (5 : Int32) by decide), if_neg (show ¬ nI 9 = (6 : Int32) by decide), if_neg (show ¬ nI 9 = (7 : Int32) by decide), if_neg (show ¬ nI 9 = (8 : Int32) by decide), if_pos (show nI 9 = (9 : Int32) from rfl)]
        rw [if_pos q]
  · refine ⟨pGr u.1 n, ?_, ?_⟩
    · unfold f_X2_tell
      rw [if_neg (show ¬ nI 10 = (0 : Int32) by decide), if_neg (show ¬ nI 10 = (1 : Int32) by decide), if_neg (show ¬ nI 10 = (2 : Int32) by decide), if_neg (show ¬ nI 10 = (3 : Int32) by decide), if_neg (show ¬ nI 10 = (4 : Int32) by decide), if_neg (show ¬ nI 10 = (5 : Int32) by decide), if_neg (show ¬ nI 10 = (6 : Int32) by decide), if_neg (show ¬ nI 10 = (7 : Int32) by decide), if_neg (show ¬ nI 10 = (8 : Int32) by decide), if_neg (show ¬ nI 10 = (9 : Int32) by decide), if_pos (show nI 10 = (10 : Int32) from rfl)]
      rw [r6]
    · unfold f_X7_valueOf
      rw [if_neg (show ¬ nI 10 = (0 : Int32) by decide), if_neg (show ¬ nI 10 = (1 : Int32) by decide), if_neg (show ¬ nI 10 = (2 : Int32) by decide), if_neg (show ¬ nI 10 = (3 : Int32) by decide), if_neg (show ¬ nI 10 = (4 : Int32) by decide), if_neg (show ¬ nI 10 = (5 : Int32) by decide), if_neg (show ¬ nI 10 = (6 : Int32) by decide), if_neg (show ¬ nI 10 = (7 : Int32) by decide), if_neg (show ¬ nI 10 = (8 : Int32) by decide), if_neg (show ¬ nI 10 = (9 : Int32) by decide), if_pos (show nI 10 = (10 : Int32) from rfl)]
      rw [gr7 hn r1.2.2.1, Option.bind_some]
  · refine ⟨nI k, ?_, ?_⟩
    · unfold f_X2_tell
      rw [if_neg (show ¬ nI 11 = (0 : Int32) by decide), if_neg (show ¬ nI 11 = (1 : Int32) by decide), if_neg (show ¬ nI 11 = (2 : Int32) by decide), if_neg (show ¬ nI 11 = (3 : Int32) by decide), if_neg (show ¬ nI 11 = (4 : Int32) by decide), if_neg (show ¬ nI 11 = (5 : Int32) by decide), if_neg (show ¬ nI 11 = (6 : Int32) by decide), if_neg (show ¬ nI 11 = (7 : Int32) by decide), if_neg (show ¬ nI 11 = (8 : Int32) by decide), if_neg (show ¬ nI 11 = (9 : Int32) by decide), if_neg (show ¬ nI 11 = (10 : Int32) by decide), if_pos (show nI 11 = (11 : Int32) from rfl)]
      rw [hl.2.1]
    · unfold f_X7_valueOf
      rw [if_neg (show ¬ nI 11 = (0 : Int32) by decide), if_neg (show ¬ nI 11 = (1 : Int32) by decide), if_neg (show ¬ nI 11 = (2 : Int32) by decide), if_neg (show ¬ nI 11 = (3 : Int32) by decide), if_neg (show ¬ nI 11 = (4 : Int32) by decide), if_neg (show ¬ nI 11 = (5 : Int32) by decide), if_neg (show ¬ nI 11 = (6 : Int32) by decide), if_neg (show ¬ nI 11 = (7 : Int32) by decide), if_neg (show ¬ nI 11 = (8 : Int32) by decide), if_neg (show ¬ nI 11 = (9 : Int32) by decide), if_neg (show ¬ nI 11 = (10 : Int32) by decide), if_pos (show nI 11 = (11 : Int32) from rfl)]
      rw [hl.2.2.1]
  · refine ⟨u.1 6, ?_, ?_⟩
    · unfold f_X2_tell
      rw [if_neg (show ¬ nI 12 = (0 : Int32) by decide), if_neg (show ¬ nI 12 = (1 : Int32) by decide), if_neg (show ¬ nI 12 = (2 : Int32) by decide), if_neg (show ¬ nI 12 = (3 : Int32) by decide), if_neg (show ¬ nI 12 = (4 : Int32) by decide), if_neg (show ¬ nI 12 = (5 : Int32) by decide), if_neg (show ¬ nI 12 = (6 : Int32) by decide), if_neg (show ¬ nI 12 = (7 : Int32) by decide), if_neg (show ¬ nI 12 = (8 : Int32) by decide), if_neg (show ¬ nI 12 = (9 : Int32) by decide), if_neg (show ¬ nI 12 = (10 : Int32) by decide), if_neg (show ¬ nI 12 = (11 : Int32) by decide), if_pos (show nI 12 = (12 : Int32) from rfl)]
      rw [r7]
    · unfold f_X7_valueOf
      rw [if_neg (show ¬ nI 12 = (0 : Int32) by decide), if_neg (show ¬ nI 12 = (1 : Int32) by decide), if_neg (show ¬ nI 12 = (2 : Int32) by decide), if_neg (show ¬ nI 12 = (3 : Int32) by decide), if_neg (show ¬ nI 12 = (4 : Int32) by decide), if_neg (show ¬ nI 12 = (5 : Int32) by decide), if_neg (show ¬ nI 12 = (6 : Int32) by decide), if_neg (show ¬ nI 12 = (7 : Int32) by decide), if_neg (show ¬ nI 12 = (8 : Int32) by decide), if_neg (show ¬ nI 12 = (9 : Int32) by decide), if_neg (show ¬ nI 12 = (10 : Int32) by decide), if_neg (show ¬ nI 12 = (11 : Int32) by decide), if_pos (show nI 12 = (12 : Int32) from rfl)]
  · rcases r8 with ⟨q1, q2⟩ | ⟨a, a1, a2, a3, a4, a5⟩
    · refine ⟨0, ?_, ?_⟩
      · unfold f_X2_tell
        rw [if_neg (show ¬ nI 13 = (0 : Int32) by decide), if_neg (show ¬ nI 13 = (1 : Int32) by decide), if_neg (show ¬ nI 13 = (2 : Int32) by decide), if_neg (show ¬ nI 13 = (3 : Int32) by decide), if_neg (show ¬ nI 13 = (4 : Int32) by decide), if_neg (show ¬ nI 13 = (5 : Int32) by decide), if_neg (show ¬ nI 13 = (6 : Int32) by decide), if_neg (show ¬ nI 13 = (7 : Int32) by decide), if_neg (show ¬ nI 13 = (8 : Int32) by decide), if_neg (show ¬ nI 13 = (9 : Int32) by decide), if_neg (show ¬ nI 13 = (10 : Int32) by decide), if_neg (show ¬ nI 13 = (11 : Int32) by decide), if_neg (show ¬ nI 13 = (12 : Int32) by decide)]
        rw [if_pos q1]
      · unfold f_X7_valueOf
        rw [if_neg (show ¬ nI 13 = (0 : Int32) by decide), if_neg (show ¬ nI 13 = (1 : Int32) by decide), if_neg (show ¬ nI 13 = (2 : Int32) by decide), if_neg (show ¬ nI 13 = (3 : Int32) by decide), if_neg (show ¬ nI 13 = (4 : Int32) by decide), if_neg (show ¬ nI 13 = (5 : Int32) by decide), if_neg (show ¬ nI 13 = (6 : Int32) by decide), if_neg (show ¬ nI 13 = (7 : Int32) by decide), if_neg (show ¬ nI 13 = (8 : Int32) by decide), if_neg (show ¬ nI 13 = (9 : Int32) by decide), if_neg (show ¬ nI 13 = (10 : Int32) by decide), if_neg (show ¬ nI 13 = (11 : Int32) by decide), if_neg (show ¬ nI 13 = (12 : Int32) by decide)]
        rw [if_pos q2]
    · refine ⟨u.1 4 - u.1 0, ?_, ?_⟩
      · unfold f_X2_tell
        rw [if_neg (show ¬ nI 13 = (0 : Int32) by decide), if_neg (show ¬ nI 13 = (1 : Int32) by decide), if_neg (show ¬ nI 13 = (2 : Int32) by decide), if_neg (show ¬ nI 13 = (3 : Int32) by decide), if_neg (show ¬ nI 13 = (4 : Int32) by decide), if_neg (show ¬ nI 13 = (5 : Int32) by decide), if_neg (show ¬ nI 13 = (6 : Int32) by decide), if_neg (show ¬ nI 13 = (7 : Int32) by decide), if_neg (show ¬ nI 13 = (8 : Int32) by decide), if_neg (show ¬ nI 13 = (9 : Int32) by decide), if_neg (show ¬ nI 13 = (10 : Int32) by decide), if_neg (show ¬ nI 13 = (11 : Int32) by decide), if_neg (show ¬ nI 13 = (12 : Int32) by decide)]
        rw [if_neg (by rw [a2]; exact of_eq_false (ne1_n (by omega))), a5, r3]
      · unfold f_X7_valueOf
        rw [if_neg (show ¬ nI 13 = (0 : Int32) by decide), if_neg (show ¬ nI 13 = (1 : Int32) by decide), if_neg (show ¬ nI 13 = (2 : Int32) by decide), if_neg (show ¬ nI 13 = (3 : Int32) by decide), if_neg (show ¬ nI 13 = (4 : Int32) by decide), if_neg (show ¬ nI 13 = (5 : Int32) by decide), if_neg (show ¬ nI 13 = (6 : Int32) by decide), if_neg (show ¬ nI 13 = (7 : Int32) by decide), if_neg (show ¬ nI 13 = (8 : Int32) by decide), if_neg (show ¬ nI 13 = (9 : Int32) by decide), if_neg (show ¬ nI 13 = (10 : Int32) by decide), if_neg (show ¬ nI 13 = (11 : Int32) by decide), if_neg (show ¬ nI 13 = (12 : Int32) by decide)]
        rw [if_neg (by rw [a3]; exact nI_c (a := a + 1) 0 (by omega) (by omega) (by omega))]
theorem A_value : zA_value Rel := by
  intro v u hR p1 F
  have hR0 := hR
  obtain ⟨⟨n, m, k, g1, g2, g3⟩, hS, hT⟩ := hR
  by_cases a1 : p1 < 0
  · refine agL_t (F := F) (k := 1) hR0 (by decide) ?_ ?_
    · unfold f_L_value f_X6_value
      rw [if_pos a1]
      rfl
    · unfold f_X7_value
      rw [in7f (Or.inl a1), Option.bind_some, if_pos zb0]
      rfl
  by_cases a2 : p1 ≤ 13
  rotate_left
  · refine agL_t (F := F) (k := 1) hR0 (by decide) ?_ ?_
    · unfold f_L_value f_X6_value
      rw [if_neg a1, if_neg a2]
      rfl
    · unfold f_X7_value
      rw [in7f (Or.inr (Int32.not_le.mp a2)), Option.bind_some, if_pos zb0]
      rfl
  have a12 : f_X7_in p1 0 13 = some true := in7t a1 (Int32.not_lt.mpr a2)
  obtain ⟨w, hw, rfl⟩ : ∃ w : Nat, w ≤ 13 ∧ p1 = nI w := nI_of2 (M := 13) (n := 13) rfl a1 a2
  obtain ⟨b, c1, c2⟩ := val2 g1 g2 g3 hw
  refine agL_o (F := F) (v := v) (u := uT u 0) (b := b) hR0 rfl ?_ ?_
  · unfold f_L_value f_X6_value
    rw [if_neg a1, if_pos a2, c1]
    rfl
  · unfold f_X7_value
    rw [a12, Option.bind_some, if_neg zb1, c2]
    rfl
