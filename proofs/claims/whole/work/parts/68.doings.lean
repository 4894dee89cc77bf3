/-! The pure part: what alters the hour. -/
theorem A_stretch : zA_stretch Rel := by
  intro v u hR p1 p2 F
  have hR0 := hR
  obtain ⟨⟨n, m, k, g1, g2, g3⟩, -, hT⟩ := hR
  obtain ⟨q', P', c', w1, w2, w3⟩ := sav2 hR0
  have hn := g1.1.1
  have hel := x7isE g1.1 p1
  rcases x0has g1.1 p1 with ⟨b1, i, hi, rfl⟩ | ⟨b1, b2⟩
  rotate_left
  · refine agL_t (F := F) (k := 1) hR0 (by decide) ?_ ?_
    · unfold f_L_stretch f_X6_stretch
      rw [b1, Option.bind_some, if_pos zb0]
      rfl
    · unfold f_X7_stretch
      rw [hel, b1, Option.bind_some, if_pos zb0]
      rfl
  by_cases a1 : p2 < -1800
  · refine agL_t (F := F) (k := 2) hR0 (by decide) ?_ ?_
    · unfold f_L_stretch f_X6_stretch
      rw [b1, Option.bind_some, if_neg zb1, if_pos a1]
      rfl
    · unfold f_X7_stretch
      rw [hel, b1, Option.bind_some, if_neg zb1, in7f (Or.inl a1), Option.bind_some, if_pos zb0]
      rfl
  by_cases a2 : p2 ≤ 1800
  rotate_left
  · refine agL_t (F := F) (k := 2) hR0 (by decide) ?_ ?_
    · unfold f_L_stretch f_X6_stretch
      rw [b1, Option.bind_some, if_neg zb1, if_neg a1, if_neg a2]
      rfl
    · unfold f_X7_stretch
      rw [hel, b1, Option.bind_some, if_neg zb1, in7f (Or.inr (Int32.not_le.mp a2)), Option.bind_some, if_pos zb0]
      rfl
  have a12 : f_X7_in p2 (-1800) 1800 = some true := in7t a1 (Int32.not_lt.mpr a2)
  have hz : zin (nI i) 12 = true := zin_n (by omega) (by omega)
  have hcl : (nI i).toNatClampNeg = i := cl_n (by omega)
  have hlen : v.1.1.2.1 i = pL u.1 i := (g1.1.2.2.2 i hi).1
  have ho := x7of0 (u := u) (i := i) (by omega)
  obtain ⟨b, c1, c2, c3⟩ := can2 g1 g3 hi (pL u.1 i + p2)
  cases b
  · refine agL_t (F := F) (k := 3) hR0 (by decide) ?_ ?_
    · unfold f_L_stretch f_X6_stretch
      rw [b1, Option.bind_some, if_neg zb1, if_neg a1, if_pos a2, if_pos hz, hcl, hlen, c1, Option.bind_some, if_pos zb0]
      rfl
    · unfold f_X7_stretch
      rw [hel, b1, Option.bind_some, if_neg zb1, a12, Option.bind_some, if_neg zb1, ho, Option.bind_some, c2, Option.bind_some, if_pos zb0]
      rfl
  · obtain ⟨⟨l, l1, l2, l3⟩, hst⟩ := c3 rfl
    rw [l3] at c1 c2 hst
    obtain ⟨h', s', k1, k2, k3, k4, k5⟩ := len2 (u := (u.1, P', u.2.2.1, u.2.2.2.1, nI c', u.2.2.2.2.2.1, u.2.2.2.2.2.2.1, 0, u.2.2.2.2.2.2.2.2)) g1 (LB_t g2) g3 hi l1 l2 hst
    refine agL_o (F := F) (v := (h', v.2.1, q', nI c', v.2.2.2.2)) (u := (s', (P', u.2.2.1, u.2.2.2.1, nI c', u.2.2.2.2.2.1, u.2.2.2.2.2.2.1, 0, u.2.2.2.2.2.2.2.2))) (b := nI l) ⟨⟨n, m, k, k3, k4.2.2.2 trivial, k5⟩, w3, hT⟩ rfl ?_ ?_
    · unfold f_L_stretch f_X6_stretch
      rw [b1, Option.bind_some, if_neg zb1, if_neg a1, if_pos a2, if_pos hz, hcl, hlen, l3, c1, Option.bind_some, if_neg zb1, w1, Option.bind_some, k1, Option.bind_some]
      rfl
    · unfold f_X7_stretch
      rw [hel, b1, Option.bind_some, if_neg zb1, a12, Option.bind_some, if_neg zb1, ho, Option.bind_some, l3, c2, Option.bind_some, if_neg zb1, w2, Option.bind_some]
      exact k2
theorem A_drop : zA_drop Rel := by
  intro v u hR p1 F
  have hR0 := hR
  obtain ⟨⟨n, m, k, g1, g2, g3⟩, -, hT⟩ := hR
  obtain ⟨q', P', c', w1, w2, w3⟩ := sav2 hR0
  have hn := g1.1.1
  have hel := x7isE g1.1 p1
  rcases x0has g1.1 p1 with ⟨b1, i, hi, rfl⟩ | ⟨b1, b2⟩
  rotate_left
  · refine agL_t (F := F) (k := 1) hR0 (by decide) ?_ ?_
    · unfold f_L_drop f_X6_drop
      rw [b1, Option.bind_some, if_pos zb0]
      rfl
    · unfold f_X7_drop
      rw [hel, b1, Option.bind_some, if_pos zb0]
      rfl
  have hwt := wt0 g1.1 hi
  have hw7 := x7waits (u := u) (i := i) (by omega)
  by_cases a1 : pS u.1 i = 0
  · have hd : decide (pS u.1 i = 0) = true := decide_eq_true a1
    rw [hd] at hwt hw7
    obtain ⟨h', s', k1, k2, k3, k4, k5, -, -⟩ := let2 (u := (u.1, P', u.2.2.1, u.2.2.2.1, nI c', u.2.2.2.2.2.1, u.2.2.2.2.2.2.1, 0, u.2.2.2.2.2.2.2.2)) g1 (LB_t g2) g3 hi a1
    refine agL_o (F := F) (v := (h', v.2.1, q', nI c', v.2.2.2.2)) (u := (s', (P', u.2.2.1, u.2.2.2.1, nI c', u.2.2.2.2.2.1, u.2.2.2.2.2.2.1, 0, u.2.2.2.2.2.2.2.2))) (b := pCn (pS s') 0 n 0 0) ⟨⟨n, m, k + 1, k3, k4.2.2.2 trivial, k5⟩, w3, hT⟩ rfl ?_ ?_
    · unfold f_L_drop f_X6_drop
      rw [b1, Option.bind_some, if_neg zb1, hwt, Option.bind_some, if_neg zb1, w1, Option.bind_some, k1, Option.bind_some, cn0 k3.1, Option.bind_some]
      rfl
    · unfold f_X7_drop
      rw [hel, b1, Option.bind_some, if_neg zb1, hw7, Option.bind_some, if_neg zb1, w2, Option.bind_some, k2, Option.bind_some, cn7 (u := (s', (P', u.2.2.1, u.2.2.2.1, nI c', u.2.2.2.2.2.1, u.2.2.2.2.2.2.1, 0, u.2.2.2.2.2.2.2.2))) hn k3.1.2.2.1 0, Option.bind_some]
  · have hd : decide (pS u.1 i = 0) = false := decide_eq_false a1
    rw [hd] at hwt hw7
    refine agL_t (F := F) (k := 2) hR0 (by decide) ?_ ?_
    · unfold f_L_drop f_X6_drop
      rw [b1, Option.bind_some, if_neg zb1, hwt, Option.bind_some, if_pos zb0]
      rfl
    · unfold f_X7_drop
      rw [hel, b1, Option.bind_some, if_neg zb1, hw7, Option.bind_some, if_pos zb0]
      rfl
/-- the second of a row -/
theorem sec_r {s : FF} {n m k : Nat} (hn : n ≤ 12) (hm : m ≤ 10) (h : pIn s n m k) : ∃ sec : Nat, s 0 = nI sec ∧ sec ≤ 90000 := by
  obtain ⟨-, -, -, sec, b1, b2, -⟩ := h
  have aE : pCE s n ≤ n := pC_le _ n
  have aF : pCF s m ≤ m := pC_le _ m
  exact ⟨sec, b1, by omega⟩
theorem A_pass : zA_pass Rel := by
  intro v u hR p1 F
  have hR0 := hR
  obtain ⟨⟨n, m, k, g1, g2, g3⟩, -, hT⟩ := hR
  obtain ⟨q', P', c', w1, w2, w3⟩ := sav2 hR0
  have hn := g1.1.1
  have hm := g1.2.1.1
  by_cases a1 : p1 < 1
  · refine agL_t (F := F) (k := 1) hR0 (by decide) ?_ ?_
    · unfold f_L_pass f_X6_pass
      rw [if_pos a1]
      rfl
    · unfold f_X7_pass
      rw [in7f (Or.inl a1), Option.bind_some, if_pos zb0]
      rfl
  by_cases a2 : p1 ≤ 3600
  rotate_left
  · refine agL_t (F := F) (k := 1) hR0 (by decide) ?_ ?_
    · unfold f_L_pass f_X6_pass
      rw [if_neg a1, if_neg a2]
      rfl
    · unfold f_X7_pass
      rw [in7f (Or.inr (Int32.not_le.mp a2)), Option.bind_some, if_pos zb0]
      rfl
  have a12 : f_X7_in p1 1 3600 = some true := in7t a1 (Int32.not_lt.mpr a2)
  obtain ⟨l, l1, l2, rfl⟩ := len_r a1 a2
  obtain ⟨sec, s1, s2⟩ := sec_r hn hm g3
  obtain ⟨h', s', k', sec', lN', e1, e2, e3, e4, e5, e6, e7, e8⟩ := run2 (u := (u.1, P', u.2.2.1, u.2.2.2.1, nI c', u.2.2.2.2.2.1, u.2.2.2.2.2.2.1, 0, u.2.2.2.2.2.2.2.2)) (lN := l) (T := sec + l) (L := nI (sec + l)) g1 (LB_t g2) g3 s1 (by omega) rfl (Or.inl ⟨rfl, by omega⟩)
  have hs : v.1.2.2.2.1 = nI sec := g1.2.2.1.trans s1
  have hs' : h'.2.2.2.1 = nI sec' := e3.2.2.1.trans e6
  have hdif : nI l - nI lN' = nI sec' - nI sec := by
    have q1 : nI sec + ((nI sec' - nI sec) + nI lN') = nI sec + nI l := by
      rw [← Int32.add_assoc, sub_add', nI_add, nI_add, e8]
    have q2 : (nI sec' - nI sec) + nI lN' = nI l := (Int32.add_right_inj _).mp q1
    rw [← q2, Int32.add_sub_cancel]
  refine agL_o (F := F) (v := (h', v.2.1, q', nI c', v.2.2.2.2)) (u := (s', (P', u.2.2.1, u.2.2.2.1, nI c', u.2.2.2.2.2.1, u.2.2.2.2.2.2.1, 0, u.2.2.2.2.2.2.2.2))) (b := nI sec' - nI sec) ⟨⟨n, m, k', e3, e4.2.2.2 trivial, e5⟩, w3, hT⟩ rfl ?_ ?_
  · unfold f_L_pass f_X6_pass
    rw [if_neg a1, if_pos a2, w1, Option.bind_some]
    show ((f_X2_runTo v.1 (v.1.2.2.2.1 + nI l)).bind _).bind _ = _
    rw [hs, nI_add, e1, Option.bind_some, hs']
    rfl
  · unfold f_X7_pass
    rw [a12, Option.bind_some, if_neg zb1, w2, Option.bind_some]
    unfold f_X7_goesOn
    rw [e2, Option.bind_some, Option.bind_some, hdif]
theorem A_finish : zA_finish Rel := by
  intro v u hR
  have hR0 := hR
  obtain ⟨⟨n, m, k, g1, g2, g3⟩, -, hT⟩ := hR
  obtain ⟨q', P', c', w1, w2, w3⟩ := sav2 hR0
  have hn := g1.1.1
  have hm := g1.2.1.1
  obtain ⟨sec, s1, s2⟩ := sec_r hn hm g3
  obtain ⟨h', s', k', sec', lN', e1, e2, e3, e4, e5, e6, e7, e8⟩ := run2 (u := (u.1, P', u.2.2.1, u.2.2.2.1, nI c', u.2.2.2.2.2.1, u.2.2.2.2.2.2.1, 0, u.2.2.2.2.2.2.2.2)) (lN := 100000000) (T := sec + 100000000) (L := 1000000) g1 (LB_t g2) g3 s1 (by omega) rfl (Or.inr ⟨rfl, by omega, by omega⟩)
  have e2' : zloop (s_X7_goesOn_2 (u.1, P', u.2.2.1, u.2.2.2.1, nI c', u.2.2.2.2.2.1, u.2.2.2.2.2.2.1, 0, u.2.2.2.2.2.2.2.2) 100000000) 4096 (100000000, (u.1, P', u.2.2.1, u.2.2.2.1, nI c', u.2.2.2.2.2.1, u.2.2.2.2.2.2.1, 0, u.2.2.2.2.2.2.2.2)) = some (nI lN', (s', P', u.2.2.1, u.2.2.2.1, nI c', u.2.2.2.2.2.1, u.2.2.2.2.2.2.1, 0, u.2.2.2.2.2.2.2.2)) := e2
  refine ⟨s' 0 - 3600, (h', v.2.1, q', nI c', v.2.2.2.2), (s', (P', u.2.2.1, u.2.2.2.1, nI c', u.2.2.2.2.2.1, u.2.2.2.2.2.2.1, 0, u.2.2.2.2.2.2.2.2)), ?_, ?_, ⟨n, m, k', e3, e4.2.2.2 trivial, e5⟩, w3, hT⟩
  · unfold f_X6_finish
    rw [w1, Option.bind_some]
    show (f_X2_runTo v.1 1000000).bind _ = _
    rw [e1, Option.bind_some, e3.2.2.1]
  · unfold f_X7_finish
    rw [w2, Option.bind_some]
    unfold f_X7_goesOn
    rw [e2', Option.bind_some, Option.bind_some]
theorem A_again : zA_again Rel := by
  intro v u hR F
  have hR0 := hR
  obtain ⟨⟨n, m, k, g1, g2, g3⟩, -, hT⟩ := hR
  obtain ⟨q', P', c', w1, w2, w3⟩ := sav2 hR0
  rcases ov2 g1 g3 with ⟨o1, o2, o3⟩ | ⟨o1, o2, o3⟩
  · refine agL_t (F := F) (k := 1) hR0 (by decide) ?_ ?_
    · unfold f_L_again f_X6_again
      rw [if_pos o1]
      rfl
    · unfold f_X7_again
      rw [if_pos o2]
      rfl
  · obtain ⟨h', s', k1, k2, k3, k4, k5⟩ := bgn2 (u := (u.1, P', u.2.2.1, u.2.2.2.1, nI c', u.2.2.2.2.2.1, u.2.2.2.2.2.2.1, 0, u.2.2.2.2.2.2.2.2)) g1 g3
    refine agL_o (F := F) (v := ((h'.1, h'.2.1, h'.2.2.1, h'.2.2.2.1, h'.2.2.2.2.1, h'.2.2.2.2.2.1, h'.2.2.2.2.2.2.1, s' 6 + 1, h'.2.2.2.2.2.2.2.2), v.2.1, q', nI c', v.2.2.2.2)) (u := (upd s' 6 (s' 6 + 1), (P', u.2.2.1, u.2.2.2.1, nI c', u.2.2.2.2.2.1, u.2.2.2.2.2.2.1, 0, u.2.2.2.2.2.2.2.2))) (b := s' 6 + 1) ⟨k5 (s' 6 + 1), w3, hT⟩ rfl ?_ ?_
    · unfold f_L_again f_X6_again
      rw [if_neg o1, w1, Option.bind_some]
      show ((f_X2_beginAnew v.1).bind _).bind _ = _
      rw [k1, Option.bind_some, k3]
      rfl
    · unfold f_X7_again
      rw [if_neg o2, w2, Option.bind_some, k2, Option.bind_some, pk_us]
theorem A_undo : zA_undo Rel := by
  intro v u hR F
  have hR0 := hR
  obtain ⟨-, ⟨cn, c1, c2, c3, -⟩, -⟩ := hR
  by_cases h0 : cn = 0
  · subst h0
    refine agL_t (F := F) (k := 1) hR0 (by decide) ?_ ?_
    · unfold f_L_undo f_X6_undo
      rw [c2, if_neg (by decide)]
      rfl
    · unfold f_X7_undo
      rw [c3, if_pos (by decide)]
      rfl
  · obtain ⟨d, rfl⟩ : ∃ d : Nat, cn = d + 1 := ⟨cn - 1, by omega⟩
    obtain ⟨h', s', k1, k2, k3⟩ := und2 hR0 c2 (by omega)
    refine agL_o (F := F) (b := nI d) k3 rfl ?_ k2
    unfold f_L_undo
    rw [k1, Option.bind_some]
theorem A_sounding : zA_sounding Rel := by
  intro v u hR
  obtain ⟨n, m, k, g1, -, -⟩ := hR.1
  exact ⟨g1.2.2.1.symm, g1.2.2.2.2.1.symm, hR⟩
theorem A_clearText : zA_clearText Rel := by
  intro v u hR
  obtain ⟨hH, hS, k, k1, k2, k3, k4⟩ := hR
  refine ⟨nI k, (v.1, v.2.1, v.2.2.1, v.2.2.2.1, (v.2.2.2.2.1, 0, v.2.2.2.2.2.2.1, v.2.2.2.2.2.2.2)), (u.1, u.2.1, u.2.2.1, u.2.2.2.1, u.2.2.2.2.1, u.2.2.2.2.2.1, 0, 0, u.2.2.2.2.2.2.2.2), ?_, ?_, hH, hS, 0, Nat.zero_le _, rfl, rfl, fun i hi => absurd hi (Nat.not_lt_zero _)⟩
  · unfold f_X6_clearText
    rw [k2]
  · unfold f_X7_clearText f_X7_tells
    rw [k3]
    rfl
theorem A_append : zA_append Rel := by
  intro v u hR p1 F
  have hR0 := hR
  obtain ⟨hH, hS, k, k1, k2, k3, k4⟩ := hR
  by_cases a1 : p1 < 0
  · refine agL_t (F := F) (k := 1) hR0 (by decide) ?_ ?_
    · unfold f_L_append f_X6_append
      rw [if_pos a1]
      rfl
    · unfold f_X7_append
      rw [in7f (Or.inl a1), Option.bind_some, if_pos zb0]
      rfl
  by_cases a2 : p1 ≤ 127
  rotate_left
  · refine agL_t (F := F) (k := 1) hR0 (by decide) ?_ ?_
    · unfold f_L_append f_X6_append
      rw [if_neg a1, if_neg a2]
      rfl
    · unfold f_X7_append
      rw [in7f (Or.inr (Int32.not_le.mp a2)), Option.bind_some, if_pos zb0]
      rfl
  have a12 : f_X7_in p1 0 127 = some true := in7t a1 (Int32.not_lt.mpr a2)
  have h100 : (u.2.2.2.2.2.2.1 = 100) = (k = 100) := by
    rw [k3]
    apply propext
    show nI k = nI 100 ↔ _
    exact nI_eq (by omega) (by omega)
  have h100' : (v.2.2.2.2.2.1 < 100) = (k < 100) := by
    rw [k2]
    exact lt_n (b := 100) (by omega) (by omega)
  have h100'' : (100 ≤ v.2.2.2.2.2.1) = (100 ≤ k) := by
    rw [k2]
    exact le_n (a := 100) (by omega) (by omega)
  by_cases a3 : k < 100
  · have hz : zin (nI k) 100 = true := zin_n a3 (by omega)
    have hcl : (nI k).toNatClampNeg = k := cl_n (by omega)
    refine agL_o (F := F) (v := (v.1, v.2.1, v.2.2.1, v.2.2.2.1, (upd v.2.2.2.2.1 k p1, nI (k + 1), v.2.2.2.2.2.2.1, v.2.2.2.2.2.2.2))) (u := (u.1, u.2.1, u.2.2.1, u.2.2.2.1, u.2.2.2.2.1, upd u.2.2.2.2.2.1 k p1, nI (k + 1), 0, u.2.2.2.2.2.2.2.2)) (b := nI (k + 1)) ⟨hH, hS, k + 1, by omega, rfl, rfl, fun i hi => ?_⟩ rfl ?_ ?_
    · show upd v.2.2.2.2.1 k p1 i = upd u.2.2.2.2.2.1 k p1 i
      by_cases hik : i = k
      · subst hik; rw [pk_us, pk_us]
      · rw [pk_un hik, pk_un hik]; exact k4 i (by omega)
    · unfold f_L_append f_X6_append f_X5_put
      rw [if_neg a1, if_pos a2, if_pos (by rw [h100']; exact a3), if_neg (by rw [h100'']; omega), k2, if_pos hz, hcl, nI_1]
      rfl
    · unfold f_X7_append f_X7_tells
      rw [a12, Option.bind_some, if_neg zb1, if_neg (by rw [h100]; omega), k3, if_pos hz, hcl, nI_1]
      rfl
  · refine agL_t (F := F) (k := 2) hR0 (by decide) ?_ ?_
    · unfold f_L_append f_X6_append
      rw [if_neg a1, if_pos a2, if_neg (by rw [h100']; exact a3)]
      rfl
    · unfold f_X7_append
      rw [a12, Option.bind_some, if_neg zb1, if_pos (by rw [h100]; omega)]
      rfl
