/-! The pure part: what would be. -/
theorem for2 {v : CV} {u : MV} {n m k : Nat} (g1 : HR0 v.1 u.1 n m) (g2 : LR v.1.2.2.1 u.1 k) (g3 : pIn u.1 n m k) :
    ∃ (h' : HV) (u4 a' t' : FF) (k' : Nat), f_X6_foresee v (-1) = some (v.1, h', v.2.2.1, v.2.2.2.1, v.2.2.2.2) ∧ f_X7_foresees u = some (u4, u.2.1, a', t', u.2.2.2.2) ∧ (∀ j : Nat, j < 220 → u4 j = u.1 j) ∧ HR0 h' t' n m ∧ LR h'.2.2.1 t' k' ∧ pIn t' n m k' := by
  obtain ⟨r, c1, c2⟩ := cpy2 v.2.1 v.1
  obtain ⟨h', u4, a', t', k', e1, e2, e3, e4, e5, e6⟩ := fse2 (HE_0 c2 g1) (LB_t (HE_L c2 g2)) g3
  refine ⟨h', u4, a', t', k', ?_, e2, e3, e4, e5.2.2.2 trivial, e6⟩
  unfold f_X6_foresee
  have hh : f_X0_has r.1 (-1) = some false := by
    unfold f_X0_has
    rw [if_pos (by decide)]
  rw [c1, Option.bind_some, hh, Option.bind_some, if_pos zb0, e1, Option.bind_some]
theorem A_beginOf : zA_beginOf Rel := by
  intro v u hR p1 F
  have hR0 := hR
  obtain ⟨hH, hS, hT⟩ := hR
  have hH0 := hH
  obtain ⟨n, m, k, g1, g2, g3⟩ := hH
  have hn := g1.1.1
  have hel := x7isE g1.1 p1
  rcases x0has g1.1 p1 with ⟨b1, i, hi, rfl⟩ | ⟨b1, b2⟩
  · obtain ⟨h', u4, a', t', k', e1, e2, e3, e4, e5, e6⟩ := for2 g1 g2 g3
    have i4 : (10 + (5 * nI i)) + 4 = nI (10 + 5 * i + 4) := x7i (w := 4)
    refine agL_o (F := F) (v := (v.1, h', v.2.2.1, v.2.2.2.1, v.2.2.2.2)) (u := uT (u4, u.2.1, a', t', u.2.2.2.2) 0) (b := pB t' i) ⟨HR_cg hH0 e3, hS, hT⟩ rfl ?_ ?_
    · unfold f_L_beginOf f_X6_beginOf
      rw [b1, Option.bind_some, if_neg zb1, e1, Option.bind_some, bg0 e4.1 hi]
      rfl
    · unfold f_X7_beginOf
      rw [hel, b1, Option.bind_some, if_neg zb1, e2, Option.bind_some, i4, if_pos (zin_n (by omega) (by omega)), cl_n (by omega)]
      rfl
  · refine agL_t (F := F) (k := 1) hR0 (by decide) ?_ ?_
    · unfold f_L_beginOf f_X6_beginOf
      rw [b1, Option.bind_some, if_pos zb0]
      rfl
    · unfold f_X7_beginOf
      rw [hel, b1, Option.bind_some, if_pos zb0]
      rfl
theorem A_endOfHour : zA_endOfHour Rel := by
  intro v u hR
  obtain ⟨hH, hS, hT⟩ := hR
  have hH0 := hH
  obtain ⟨n, m, k, g1, g2, g3⟩ := hH
  obtain ⟨h', u4, a', t', k', e1, e2, e3, e4, e5, e6⟩ := for2 g1 g2 g3
  refine ⟨t' 0, (v.1, h', v.2.2.1, v.2.2.2.1, v.2.2.2.2), uT (u4, u.2.1, a', t', u.2.2.2.2) 0, ?_, ?_, HR_cg hH0 e3, hS, hT⟩
  · unfold f_X6_endOfHour
    rw [e1, Option.bind_some]
    exact congrArg (fun x : Int32 => some (x, (v.1, h', v.2.2.1, v.2.2.2.1, v.2.2.2.2))) e4.2.2.1
  · unfold f_X7_endOfHour
    rw [e2, Option.bind_some]
    rfl
theorem A_silence : zA_silence Rel := by
  intro v u hR
  obtain ⟨hH, hS, hT⟩ := hR
  have hH0 := hH
  obtain ⟨n, m, k, g1, g2, g3⟩ := hH
  obtain ⟨h', u4, a', t', k', e1, e2, e3, e4, e5, e6⟩ := for2 g1 g2 g3
  refine ⟨t' 5 - u4 5, (v.1, h', v.2.2.1, v.2.2.2.1, v.2.2.2.2), uT (u4, u.2.1, a', t', u.2.2.2.2) 0, ?_, ?_, HR_cg hH0 e3, hS, hT⟩
  · unfold f_X6_silence
    rw [e1, Option.bind_some]
    have q : h'.2.2.2.2.2.1 - v.1.2.2.2.2.2.1 = t' 5 - u4 5 := by rw [e4.2.2.2.2.1, g1.2.2.2.2.1, e3 5 (by omega)]
    exact congrArg (fun x : Int32 => some (x, (v.1, h', v.2.2.1, v.2.2.2.1, v.2.2.2.2))) q
  · unfold f_X7_silence
    rw [e2, Option.bind_some]
    rfl
theorem A_drops : zA_drops Rel := by
  intro v u hR
  obtain ⟨hH, hS, hT⟩ := hR
  have hH0 := hH
  obtain ⟨n, m, k, g1, g2, g3⟩ := hH
  have hn := g1.1.1
  obtain ⟨h', u4, a', t', k', e1, e2, e3, e4, e5, e6⟩ := for2 g1 g2 g3
  obtain ⟨G, hG⟩ : ∃ G : Nat → Int32 → Int32, G = fun a x => if pS u.1 a = 0 then (if pS t' a = 3 then x ||| (1 <<< (nI a &&& 31)) else x) else x := ⟨_, rfl⟩
  have hS4 : ∀ a : Nat, a < n → pS u4 a = pS u.1 a := fun a ha => e3 _ (by omega)
  have h47 : u4 7 = nI n := (e3 7 (by omega)).trans g1.1.2.2.1
  have q1 := zlF' (f := s_X6_drops_10 (v.1, h', v.2.2.1, v.2.2.2.1, v.2.2.2.2)) (fun a (x : Int32) => (x, nI a)) (fun x => (x, nI n)) G n
    (fun a x ha => by
      unfold s_X6_drops_10
      show (if v.1.1.1 ≤ nI a then _ else (f_X0_waits v.1.1 (nI a)).bind (fun u3 => if (zb u3) = 0 then _ else (f_X0_is h'.1 (nI a) 3).bind _)) = _
      rw [g1.1.2.1, if_neg (by rw [nI_leI (by omega) (by omega)]; omega), wt0 g1.1 ha, Option.bind_some, is0 e4.1 ha 3, Option.bind_some, hG]
      by_cases c1 : pS u.1 a = 0
      · rw [decide_eq_true c1, if_neg zb1]
        by_cases c2 : pS t' a = 3
        · rw [decide_eq_true c2, if_neg zb1]
          show some (Sum.inl _) = some (Sum.inl (if pS u.1 a = 0 then (if pS t' a = 3 then x ||| (1 <<< (nI a &&& 31)) else x) else x, _))
          rw [if_pos c1, if_pos c2, ← nI_1]
        · rw [decide_eq_false c2, if_pos zb0]
          show some (Sum.inl _) = some (Sum.inl (if pS u.1 a = 0 then (if pS t' a = 3 then x ||| (1 <<< (nI a &&& 31)) else x) else x, _))
          rw [if_pos c1, if_neg c2, ← nI_1]
      · rw [decide_eq_false c1, if_pos zb0]
        show some (Sum.inl _) = some (Sum.inl (if pS u.1 a = 0 then (if pS t' a = 3 then x ||| (1 <<< (nI a &&& 31)) else x) else x, _))
        rw [if_neg c1, ← nI_1])
    (fun x => by
      unfold s_X6_drops_10
      show (if v.1.1.1 ≤ nI n then _ else _) = _
      rw [g1.1.2.1, if_pos (Int32.le_refl _)]) n 0 0 4096 (by omega) (by omega)
  have q2 := zlF' (f := s_X7_drops_8 (u4, u.2.1, a', t', u.2.2.2.2)) (fun a (x : Int32) => (x, nI a)) (fun x => (x, nI n)) G n
    (fun a x ha => by
      have i3 : (10 + (5 * nI a)) + 3 = nI (10 + 5 * a + 3) := x7i (w := 3)
      unfold s_X7_drops_8
      show (if u4 7 ≤ nI a then _ else (f_X7_waits (u4, u.2.1, a', t', u.2.2.2.2) (nI a)).bind (fun u3 => if (zb u3) = 0 then _ else if zin ((10 + (5 * nI a)) + 3) 220 = true then if (t' ((10 + (5 * nI a)) + 3).toNatClampNeg) = 3 then _ else _ else _)) = _
      rw [h47, if_neg (by rw [nI_leI (by omega) (by omega)]; omega), x7waits (u := (u4, u.2.1, a', t', u.2.2.2.2)) (i := a) (by omega), Option.bind_some, i3, if_pos (zin_n (by omega) (by omega)), cl_n (by omega), hG]
      have hS4a : pS (u4, u.2.1, a', t', u.2.2.2.2).1 a = pS u.1 a := hS4 a ha
      rw [hS4a]
      by_cases c1 : pS u.1 a = 0
      · rw [decide_eq_true c1, if_neg zb1]
        by_cases c2 : pS t' a = 3
        · have c2' : t' (10 + 5 * a + 3) = 3 := c2
          rw [if_pos c2']
          show some (Sum.inl _) = some (Sum.inl (if pS u.1 a = 0 then (if pS t' a = 3 then x ||| (1 <<< (nI a &&& 31)) else x) else x, _))
          rw [if_pos c1, if_pos c2, ← nI_1]
        · have c2' : ¬ t' (10 + 5 * a + 3) = 3 := c2
          rw [if_neg c2']
          show some (Sum.inl (x ||| 0, _)) = some (Sum.inl (if pS u.1 a = 0 then (if pS t' a = 3 then x ||| (1 <<< (nI a &&& 31)) else x) else x, _))
          rw [if_pos c1, if_neg c2, ← nI_1, Int32.or_zero]
      · rw [decide_eq_false c1, if_pos zb0]
        show some (Sum.inl (x ||| 0, _)) = some (Sum.inl (if pS u.1 a = 0 then (if pS t' a = 3 then x ||| (1 <<< (nI a &&& 31)) else x) else x, _))
        rw [if_neg c1, ← nI_1, Int32.or_zero])
    (fun x => by
      unfold s_X7_drops_8
      show (if u4 7 ≤ nI n then _ else _) = _
      rw [h47, if_pos (Int32.le_refl _)]) n 0 0 4096 (by omega) (by omega)
  have q1' : zloop (s_X6_drops_10 (v.1, h', v.2.2.1, v.2.2.2.1, v.2.2.2.2)) 4096 (0, 0) = some (pF G n 0 0, nI n) := q1
  have q2' : zloop (s_X7_drops_8 (u4, u.2.1, a', t', u.2.2.2.2)) 4096 (0, 0) = some (pF G n 0 0, nI n) := q2
  refine ⟨pF G n 0 0, (v.1, h', v.2.2.1, v.2.2.2.1, v.2.2.2.2), uT (u4, u.2.1, a', t', u.2.2.2.2) 0, ?_, ?_, HR_cg hH0 e3, hS, hT⟩
  · unfold f_X6_drops
    rw [e1, Option.bind_some, q1', Option.bind_some]
  · unfold f_X7_drops
    rw [e2, Option.bind_some, q2', Option.bind_some]
    rfl
