/-! The pure part: the best one to let go. -/
theorem drB {r : HV} {u : MV} {n m k i : Nat} (g1 : HR0 r u.1 n m) (g2 : LR r.2.2.1 u.1 k) (g3 : pIn u.1 n m k) (hi : i < n) (hw : pS u.1 i = 0) : ∃ h1 : HV, f_X2_dropElement r (nI i) = some h1 ∧ HR0 h1 (upd u.1 (10 + 5 * i + 3) 3) n m ∧ LB False h1.2.2.1 (upd u.1 (10 + 5 * i + 3) 3) k ∧ pIn (upd u.1 (10 + 5 * i + 3) 3) n m k := by
  have hn := g1.1.1
  have hm := g1.2.1.1
  obtain ⟨h1, s', d1, -, d3, d4, d5, d6, d7⟩ := let2 g1 (LB_t g2) g3 hi hw
  have hag : ∀ j : Nat, j < 100 → j ≠ 9 → upd u.1 (10 + 5 * i + 3) 3 j = s' j := fun j q1 q2 => by
    by_cases hj : j = 10 + 5 * i + 3
    · rw [hj, pk_us]
      exact d6.symm
    · rw [pk_un hj]
      exact (d7 j q1 q2 hj).symm
  refine ⟨h1, d1, HR0_cg d3 hag, ⟨by have := d4.1; omega, ?_, ⟨k + 1, d4.1, (d4.2.2.2 trivial).2.1⟩, fun q => q.elim⟩, pIn_dn (pIn_cg hn hm d5 hag) (by omega)⟩
  rw [pk_un (by omega)]
  exact g2.2.2.1
theorem fore {v : CV} {u : MV} {n m k i : Nat} (g1 : HR0 v.1 u.1 n m) (g2 : LR v.1.2.2.1 u.1 k) (g3 : pIn u.1 n m k) (hi : i < n) (hw : pS u.1 i = 0) :
    ∃ (h' : HV) (u4 a' t' : FF), f_X6_foresee v (nI i) = some (v.1, h', v.2.2.1, v.2.2.2.1, v.2.2.2.2) ∧ f_X7_foresees (upd u.1 (10 + 5 * i + 3) 3, u.2) = some (u4, u.2.1, a', t', u.2.2.2.2) ∧ (∀ j : Nat, j < 220 → upd u4 (10 + 5 * i + 3) 0 j = u.1 j) ∧ ER h'.1 t' n := by
  obtain ⟨r, c1, c2⟩ := cpy2 v.2.1 v.1
  obtain ⟨h1, d1, d2, d3, d4⟩ := drB (r := r) (u := u) (HE_0 c2 g1) (HE_L c2 g2) g3 hi hw
  obtain ⟨h', u4, a', t', k', e1, e2, e3, e4, -, -⟩ := fse2 (u := (upd u.1 (10 + 5 * i + 3) 3, u.2)) d2 d3 d4
  refine ⟨h', u4, a', t', ?_, e2, fun j hj => ?_, e4.1⟩
  · unfold f_X6_foresee
    rw [c1, Option.bind_some, hasN (HE_0 c2 g1).1 hi, Option.bind_some, if_neg zb1, d1, Option.bind_some, e1, Option.bind_some]
  · by_cases hj2 : j = 10 + 5 * i + 3
    · rw [hj2, pk_us]
      exact hw.symm
    · rw [pk_un hj2, e3 j hj]
      exact pk_un hj2
theorem dn7 {u : MV} {n : Nat} (hn : n ≤ 12) (h7 : u.1 7 = nI n) : f_X7_doneThen u = some (pCn (pS u.2.2.2.1) 2 n 0 0) := by
  unfold f_X7_doneThen
  have i3 : ∀ a : Nat, (10 + (5 * nI a)) + 3 = nI (10 + 5 * a + 3) := fun a => x7i (w := 3)
  have h1 := zlF' (f := s_X7_doneThen_4 u) (fun a (x : Int32) => (x, nI a)) (fun x => (x, nI n)) (fun a x => if pS u.2.2.2.1 a = 2 then x + 1 else x) n
    (fun a x ha => by
      unfold s_X7_doneThen_4
      show (if u.1 7 ≤ nI a then _ else if zin ((10 + (5 * nI a)) + 3) 220 = true then if (u.2.2.2.1 ((10 + (5 * nI a)) + 3).toNatClampNeg) = 2 then _ else _ else _) = _
      rw [h7, if_neg (by rw [nI_leI (by omega) (by omega)]; omega), i3, if_pos (zin_n (by omega) (by omega)), cl_n (by omega)]
      by_cases hc : u.2.2.2.1 (10 + 5 * a + 3) = 2
      · have hc' : pS u.2.2.2.1 a = 2 := hc
        rw [if_pos hc]
        show some (Sum.inl (x + 1, nI a + 1)) = some (Sum.inl (if pS u.2.2.2.1 a = 2 then x + 1 else x, nI (a + 1)))
        rw [if_pos hc', nI_1]
      · have hc' : ¬ pS u.2.2.2.1 a = 2 := hc
        rw [if_neg hc]
        show some (Sum.inl (x + 0, nI a + 1)) = some (Sum.inl (if pS u.2.2.2.1 a = 2 then x + 1 else x, nI (a + 1)))
        rw [if_neg hc', nI_1, Int32.add_zero])
    (fun x => by
      unfold s_X7_doneThen_4
      show (if u.1 7 ≤ nI n then _ else _) = _
      rw [h7, if_pos (Int32.le_refl _)]) n 0 0 4096 (by omega) (by omega)
  have h2 : zloop (s_X7_doneThen_4 u) 4096 (0, 0) = some (pCn (pS u.2.2.2.1) 2 n 0 0, nI n) := h1
  rw [h2]
  rfl
def r7bst (x : Int32 × Int32 × Int32 × MV) (w : MV) : Option ((Int32 × Int32 × Int32 × MV) ⊕ (Int32 × Int32 × Int32 × MV)) :=
  (f_X7_doneThen w).bind (fun u9 =>
  if u9 ≤ x.1 then
    (f_X7_doneThen w).bind (fun u11 =>
    if u11 ≤ x.1 then some (.inl (x.1, x.2.1, (x.2.2.1 + 1), w))
    else (f_X7_doneThen w).bind (fun u13 => some (.inl (u13, x.2.1, (x.2.2.1 + 1), w))))
  else
    (f_X7_doneThen w).bind (fun u14 =>
    if u14 ≤ x.1 then some (.inl (x.1, x.2.2.1, (x.2.2.1 + 1), w))
    else (f_X7_doneThen w).bind (fun u16 => some (.inl (u16, x.2.2.1, (x.2.2.1 + 1), w)))))
theorem r7bs (v : MV) (x : Int32 × Int32 × Int32 × MV) : s_X7_bestDrop_18 v x = if (x.2.2.2.1 7) ≤ x.2.2.1 then some (.inr (x.1, x.2.1, x.2.2.1, x.2.2.2)) else (f_X7_waits x.2.2.2 x.2.2.1).bind (fun u4 =>
    if (zb u4) = 0 then some (.inl (x.1, x.2.1, (x.2.2.1 + 1), x.2.2.2))
    else if zin ((10 + (5 * x.2.2.1)) + 3) 220 = true then
      (f_X7_foresees (upd x.2.2.2.1 (((10 + (5 * x.2.2.1)) + 3).toNatClampNeg) 3, x.2.2.2.2)).bind (fun u7 =>
      if zin ((10 + (5 * x.2.2.1)) + 3) 220 = true then r7bst x (upd u7.1 (((10 + (5 * x.2.2.1)) + 3).toNatClampNeg) 0, u7.2) else none)
    else none) := rfl
theorem A_bestDrop : zA_bestDrop Rel := by
  intro v u hR
  obtain ⟨hH, hS, hT⟩ := hR
  have hH0 := hH
  obtain ⟨n, m, k, g1, g2, g3⟩ := hH
  have hn := g1.1.1
  have hm := g1.2.1.1
  obtain ⟨R, hRr⟩ : ∃ R : Int32 × FF × Int32 × Int32 × Int32 × Int32 × Int64, R = (u.2.2.2.2.1, u.2.2.2.2.2.1, u.2.2.2.2.2.2.1, 0, u.2.2.2.2.2.2.2.2) := ⟨_, rfl⟩
  obtain ⟨h0, u40, a0, t0, k0, e1, e2, e3, e4, e5, e6⟩ := for2 (v := v) (u := (u.1, u.2.1, u.2.2.1, u.2.2.2.1, R)) g1 g2 g3
  have hcg : ∀ s4 : FF, (∀ j : Nat, j < 220 → s4 j = u.1 j) → HR0 v.1 s4 n m ∧ LR v.1.2.2.1 s4 k ∧ pIn s4 n m k := fun s4 q => ⟨HR0_cg g1 (fun j q1 _ => q j (by omega)), LR_cg g2 (fun j q1 _ => q j q1), pIn_cg hn hm g3 (fun j q1 _ => q j (by omega))⟩
  have i3 : ∀ a : Nat, (10 + (5 * nI a)) + 3 = nI (10 + 5 * a + 3) := fun a => x7i (w := 3)
  obtain ⟨r, r', f1, f2, b, c, h', s', a', t', a2, rfl, rfl, f3⟩ := zl2 (f := s_X6_bestDrop_17 (v.1, h0, v.2.2.1, v.2.2.2.1, v.2.2.2.2)) (g := s_X7_bestDrop_18 (u40, u.2.1, a0, t0, R))
    (fun kk x y => ∃ (a : Nat) (b c : Int32) (h' : HV) (s' a' t' : FF), kk = n - a ∧ a ≤ n ∧ x = (b, c, nI a, (v.1, h', v.2.2.1, v.2.2.2.1, v.2.2.2.2)) ∧ y = (c, b, nI a, (s', u.2.1, a', t', R)) ∧ ∀ j : Nat, j < 220 → s' j = u.1 j)
    (fun r r' => ∃ (b c : Int32) (h' : HV) (s' a' t' : FF) (a2 : Int32), r = (b, c, a2, (v.1, h', v.2.2.1, v.2.2.2.1, v.2.2.2.2)) ∧ r' = (c, b, a2, (s', u.2.1, a', t', R)) ∧ ∀ j : Nat, j < 220 → s' j = u.1 j)
    (by
      rintro kk x y ⟨a, b, c, h', s', a', t', rfl, ha, rfl, rfl, hs⟩
      obtain ⟨g1', g2', g3'⟩ := hcg s' hs
      have h7 : s' 7 = nI n := g1'.1.2.2.1
      rw [r7bs]
      unfold s_X6_bestDrop_17
      show (∃ r r', (if v.1.1.1 ≤ nI a then _ else (f_X0_waits v.1.1 (nI a)).bind _) = some (Sum.inr r) ∧ (if s' 7 ≤ nI a then _ else (f_X7_waits (s', u.2.1, a', t', R) (nI a)).bind _) = some (Sum.inr r') ∧ _) ∨ (∃ k' x' y', (if v.1.1.1 ≤ nI a then _ else (f_X0_waits v.1.1 (nI a)).bind _) = some (Sum.inl x') ∧ (if s' 7 ≤ nI a then _ else (f_X7_waits (s', u.2.1, a', t', R) (nI a)).bind _) = some (Sum.inl y') ∧ _)
      rw [h7, g1'.1.2.1]
      by_cases hl : n ≤ a
      · rw [if_pos (by rw [nI_leI (by omega) (by omega)]; exact hl), if_pos (by rw [nI_leI (by omega) (by omega)]; exact hl)]
        exact Or.inl ⟨_, _, rfl, rfl, b, c, h', s', a', t', nI a, rfl, rfl, hs⟩
      · have han : a < n := by omega
        rw [if_neg (by rw [nI_leI (by omega) (by omega)]; exact hl), if_neg (by rw [nI_leI (by omega) (by omega)]; exact hl), wt0 g1'.1 han, x7waits (u := (s', u.2.1, a', t', R)) (i := a) (by omega), Option.bind_some, Option.bind_some]
        by_cases hw : pS s' a = 0
        · have hw' : pS (s', u.2.1, a', t', R).1 a = 0 := hw
          rw [decide_eq_true hw, if_neg zb1, if_neg zb1]
          obtain ⟨h2, u4, a2, t2, k1, k2, k3, k4⟩ := fore (v := (v.1, h', v.2.2.1, v.2.2.2.1, v.2.2.2.2)) (u := (s', u.2.1, a', t', R)) g1' g2' g3' han hw
          have k1' : f_X6_foresee (v.1, h', v.2.2.1, v.2.2.2.1, v.2.2.2.2) (nI a) = some (v.1, h2, v.2.2.1, v.2.2.2.1, v.2.2.2.2) := k1
          have k2' : f_X7_foresees (upd s' (10 + 5 * a + 3) 3, u.2.1, a', t', R) = some (u4, u.2.1, a2, t2, R) := k2
          have k3' : ∀ j : Nat, j < 220 → upd u4 (10 + 5 * a + 3) 0 j = u.1 j := fun j hj => (k3 j hj).trans (hs j hj)
          have hdn : f_X7_doneThen (upd u4 (10 + 5 * a + 3) 0, u.2.1, a2, t2, R) = some (pCn (pS t2) 2 n 0 0) := dn7 (u := (upd u4 (10 + 5 * a + 3) 0, u.2.1, a2, t2, R)) hn ((k3' 7 (by omega)).trans g1.1.2.2.1)
          have hx : (f_X6_foresee (v.1, h', v.2.2.1, v.2.2.2.1, v.2.2.2.2) (nI a)).bind (fun u6 => (f_X0_countThatAre u6.2.1.1 2).bind (fun u7 => if u7 ≤ c then some (Sum.inl (b, c, (nI a + 1), u6)) else some (Sum.inl (nI a, u7, (nI a + 1), u6)))) = (some (Sum.inl (if pCn (pS t2) 2 n 0 0 ≤ c then (b, c, nI (a + 1), (v.1, h2, v.2.2.1, v.2.2.2.1, v.2.2.2.2)) else (nI a, pCn (pS t2) 2 n 0 0, nI (a + 1), (v.1, h2, v.2.2.1, v.2.2.2.1, v.2.2.2.2)))) : Option ((Int32 × Int32 × Int32 × CV) ⊕ (Int32 × Int32 × Int32 × CV))) := by
            rw [k1', Option.bind_some]
            show (f_X0_countThatAre h2.1 2).bind _ = _
            rw [cn0 k4 2, Option.bind_some, nI_1]
            by_cases hc : pCn (pS t2) 2 n 0 0 ≤ c
            · rw [if_pos hc, if_pos hc]
            · rw [if_neg hc, if_neg hc]
          have hy : (if zin ((10 + (5 * nI a)) + 3) 220 = true then
              (f_X7_foresees (upd s' (((10 + (5 * nI a)) + 3).toNatClampNeg) 3, (u.2.1, a', t', R))).bind (fun u7 =>
              if zin ((10 + (5 * nI a)) + 3) 220 = true then r7bst (c, b, nI a, (s', u.2.1, a', t', R)) (upd u7.1 (((10 + (5 * nI a)) + 3).toNatClampNeg) 0, u7.2) else none)
              else none) = some (Sum.inl (if pCn (pS t2) 2 n 0 0 ≤ c then (c, b, nI (a + 1), (upd u4 (10 + 5 * a + 3) 0, u.2.1, a2, t2, R)) else (pCn (pS t2) 2 n 0 0, nI a, nI (a + 1), (upd u4 (10 + 5 * a + 3) 0, u.2.1, a2, t2, R)))) := by
            rw [i3, if_pos (zin_n (by omega) (by omega)), cl_n (by omega), k2', Option.bind_some, if_pos (zin_n (by omega) (by omega))]
            unfold r7bst
            show (f_X7_doneThen (upd u4 (10 + 5 * a + 3) 0, u.2.1, a2, t2, R)).bind (fun u9 => if u9 ≤ c then (f_X7_doneThen (upd u4 (10 + 5 * a + 3) 0, u.2.1, a2, t2, R)).bind _ else (f_X7_doneThen (upd u4 (10 + 5 * a + 3) 0, u.2.1, a2, t2, R)).bind _) = _
            rw [hdn, Option.bind_some]
            by_cases hc : pCn (pS t2) 2 n 0 0 ≤ c
            · rw [if_pos hc, if_pos hc, Option.bind_some, if_pos hc, nI_1]
            · rw [if_neg hc, if_neg hc, Option.bind_some, if_neg hc, Option.bind_some, nI_1]
          by_cases hc : pCn (pS t2) 2 n 0 0 ≤ c
          · rw [if_pos hc] at hx hy
            exact Or.inr ⟨n - (a + 1), _, _, hx, hy, by omega, a + 1, b, c, h2, upd u4 (10 + 5 * a + 3) 0, a2, t2, rfl, by omega, rfl, rfl, k3'⟩
          · rw [if_neg hc] at hx hy
            exact Or.inr ⟨n - (a + 1), _, _, hx, hy, by omega, a + 1, nI a, pCn (pS t2) 2 n 0 0, h2, upd u4 (10 + 5 * a + 3) 0, a2, t2, rfl, by omega, rfl, rfl, k3'⟩
        · have hw' : ¬ pS (s', u.2.1, a', t', R).1 a = 0 := hw
          rw [decide_eq_false hw, if_pos zb0, if_pos zb0]
          exact Or.inr ⟨n - (a + 1), _, _, rfl, rfl, by omega, a + 1, b, c, h', s', a', t', rfl, by omega, by rw [nI_1], by rw [nI_1], hs⟩)
    4096 4096 n (-1, pCn (pS t0) 2 n 0 0, 0, (v.1, h0, v.2.2.1, v.2.2.2.1, v.2.2.2.2)) (pCn (pS t0) 2 n 0 0, -1, 0, (u40, u.2.1, a0, t0, R)) (by omega) (by omega)
    ⟨0, -1, pCn (pS t0) 2 n 0 0, h0, u40, a0, t0, rfl, Nat.zero_le _, rfl, rfl, e3⟩
  refine ⟨b, (v.1, h', v.2.2.1, v.2.2.2.1, v.2.2.2.2), (s', u.2.1, a', t', R), ?_, ?_, HR_cg hH0 f3, ?_, ?_⟩
  · unfold f_X6_bestDrop
    rw [e1, Option.bind_some]
    show (f_X0_countThatAre h0.1 2).bind _ = _
    rw [cn0 e4.1 2, Option.bind_some, f1, Option.bind_some]
  · unfold f_X7_bestDrop
    have e2' : f_X7_foresees (u.1, u.2.1, u.2.2.1, u.2.2.2.1, u.2.2.2.2.1, u.2.2.2.2.2.1, u.2.2.2.2.2.2.1, 0, u.2.2.2.2.2.2.2.2.1, u.2.2.2.2.2.2.2.2.2.1, u.2.2.2.2.2.2.2.2.2.2) = some (u40, u.2.1, a0, t0, R) := by
      rw [hRr] at e2 ⊢
      exact e2
    have hdn : f_X7_doneThen (u40, u.2.1, a0, t0, R) = some (pCn (pS t0) 2 n 0 0) := dn7 (u := (u40, u.2.1, a0, t0, R)) hn ((e3 7 (by omega)).trans g1.1.2.2.1)
    rw [e2', Option.bind_some, hdn, Option.bind_some, f2, Option.bind_some]
  · rw [hRr]
    exact hS
  · rw [hRr]
    exact hT
