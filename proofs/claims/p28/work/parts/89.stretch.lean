/-! An element is stretched, by the class and by the law. -/
theorem canX {h : HV} {s : FF} {n m k i : Nat} (h0 : HR0 h s n m) (hin : pIn s n m k) (hi : i < n) (L : Int32) : f_X2_canHaveLength h (nI i) L = some (decide (¬ L < 1 ∧ ¬ 3600 < L ∧ (pS s i = 0 ∨ (pS s i = 1 ∧ ¬ pB s i + L < s 0)))) := by
  obtain ⟨r1, r2, r3, r4, r5, r6, r7, r8⟩ := h0
  by_cases h1 : L < 1
  · unfold f_X2_canHaveLength
    rw [if_pos h1, decide_eq_false (fun q => q.1 h1)]
  · by_cases h2 : L ≤ 3600
    · have h2' : ¬ (3600 : Int32) < L := Int32.not_lt.mpr h2
      have his := is0 r1 hi 1
      have hbg := bg0 r1 hi
      have hwt := wt0 r1 hi
      unfold f_X2_canHaveLength
      rw [if_neg h1, if_pos h2, his, Option.bind_some]
      rcases (hin.1 i hi).2.2 with ⟨q, -⟩ | ⟨q, -⟩ | q | q
      · rw [if_pos (by rw [q]; decide), hwt, q, Option.bind_some, decide_eq_true (p := (¬ L < 1 ∧ ¬ 3600 < L ∧ ((0 : Int32) = 0 ∨ ((0 : Int32) = 1 ∧ ¬ pB s i + L < s 0)))) ⟨h1, h2', Or.inl rfl⟩]
        rfl
      · rw [if_neg (by rw [q]; decide), hbg, Option.bind_some, r3]
        by_cases hc : pB s i + L < s 0
        · rw [if_pos hc, decide_eq_false (fun z => by
            rcases z.2.2 with w | w
            · rw [q] at w; exact absurd w (by decide)
            · exact w.2 hc)]
        · rw [if_neg hc, decide_eq_true (p := (¬ L < 1 ∧ ¬ 3600 < L ∧ (pS s i = 0 ∨ (pS s i = 1 ∧ ¬ pB s i + L < s 0)))) ⟨h1, h2', Or.inr ⟨q, hc⟩⟩]
      · rw [if_pos (by rw [q]; decide), hwt, q, Option.bind_some, decide_eq_false (p := (¬ L < 1 ∧ ¬ 3600 < L ∧ ((2 : Int32) = 0 ∨ ((2 : Int32) = 1 ∧ ¬ pB s i + L < s 0)))) (fun z => by
          rcases z.2.2 with w | w
          · exact absurd w (by decide)
          · exact absurd w.1 (by decide))]
        rfl
      · rw [if_pos (by rw [q]; decide), hwt, q, Option.bind_some, decide_eq_false (p := (¬ L < 1 ∧ ¬ 3600 < L ∧ ((3 : Int32) = 0 ∨ ((3 : Int32) = 1 ∧ ¬ pB s i + L < s 0)))) (fun z => by
          rcases z.2.2 with w | w
          · exact absurd w (by decide)
          · exact absurd w.1 (by decide))]
        rfl
    · unfold f_X2_canHaveLength
      rw [if_neg h1, if_neg h2, decide_eq_false (fun q => q.2.1 (Int32.not_le.mp h2))]
theorem len7r {u r : MV} {i l : Nat} {y : Int32} (hi : i < 12) (h : r7len u (nI i) (nI l) = some (y, r)) : (¬ pS u.1 i = 1 ∧ r = (upd u.1 (10 + 5 * i) (nI l), u.2)) ∨ (pS u.1 i = 1 ∧ ((pB u.1 i + nI l = u.1 0 ∧ f_X7_endsOnAir (upd (upd u.1 (10 + 5 * i) (nI l)) 4 (pB u.1 i + nI l), u.2) = some r) ∨ (¬ pB u.1 i + nI l = u.1 0 ∧ r = (upd (upd u.1 (10 + 5 * i) (nI l)) 4 (pB u.1 i + nI l), u.2)))) := by
  have i0 : (10 + (5 * nI i)) + 0 = nI (10 + 5 * i) := x7i (w := 0)
  unfold r7len at h
  rw [i0] at h
  obtain ⟨-, h⟩ := og h
  rw [cl_n (by omega)] at h
  obtain ⟨w, hw, h⟩ := ob h
  have hw3 : pS (upd u.1 (10 + 5 * i) (nI l)) i = w := Option.some.inj ((x7of3 (u := (upd u.1 (10 + 5 * i) (nI l), u.2)) (i := i) (by omega)).symm.trans hw)
  have hw3' : w = pS u.1 i := by rw [← hw3]; exact pk_un (by omega)
  by_cases h1 : w = 1
  · rw [if_pos h1] at h
    obtain ⟨b, hb, h⟩ := ob h
    have hb4 : pB (upd u.1 (10 + 5 * i) (nI l)) i = b := Option.some.inj ((x7of4 (u := (upd u.1 (10 + 5 * i) (nI l), u.2)) (i := i) (by omega)).symm.trans hb)
    have hb4' : b = pB u.1 i := by rw [← hb4]; exact pk_un (by omega)
    rw [pk_us, pk_un (show 0 ≠ 4 by omega), pk_un (show 0 ≠ 10 + 5 * i by omega), hb4'] at h
    refine Or.inr ⟨hw3'.symm.trans h1, ?_⟩
    by_cases hq : pB u.1 i + nI l = u.1 0
    · rw [if_pos hq] at h
      obtain ⟨z, hz, h⟩ := ob h
      obtain rfl : z = r := congrArg Prod.snd (Option.some.inj h)
      exact Or.inl ⟨hq, hz⟩
    · rw [if_neg hq] at h
      exact Or.inr ⟨hq, (congrArg Prod.snd (Option.some.inj h)).symm⟩
  · rw [if_neg h1] at h
    exact Or.inl ⟨fun q => h1 (hw3'.trans q), (congrArg Prod.snd (Option.some.inj h)).symm⟩
theorem stR {v : CV} {i : Nat} {b : Int32} (hi : i < 12) (hh : f_X0_has v.1.1 (nI i) = some true) (hb1 : ¬ b < -1800) (hb2 : b ≤ 1800) (hcan : f_X2_canHaveLength v.1 (nI i) (v.1.1.2.1 i + b) = some false) : fa_L_stretches v (nI i) b = some (-2000003, v) := by
  unfold fa_L_stretches f_X6_stretch
  rw [hh, Option.bind_some, if_neg zb1, if_neg hb1, if_pos hb2, if_pos (zin_n hi (by omega)), cl_n (by omega), hcan, Option.bind_some, if_pos zb0]
  rfl
theorem stO {v : CV} {i : Nat} {b : Int32} {q' : QV} {c' : Int32} {h' : HV} (hi : i < 12) (hh : f_X0_has v.1.1 (nI i) = some true) (hb1 : ¬ b < -1800) (hb2 : b ≤ 1800) (hcan : f_X2_canHaveLength v.1 (nI i) (v.1.1.2.1 i + b) = some true) (w1 : f_X6_save v = some (v.1, v.2.1, q', c', v.2.2.2.2)) (hlen : f_X2_giveLength v.1 (nI i) (v.1.1.2.1 i + b) = some h') : fn_X6_stretch v (nI i) b = some (v.1.1.2.1 i + b, (h', v.2.1, q', c', v.2.2.2.2)) := by
  unfold fn_X6_stretch
  rw [hh, Option.bind_some, if_neg zb1, if_neg hb1, if_pos hb2, if_pos (zin_n hi (by omega)), cl_n (by omega), hcan, Option.bind_some, if_neg zb1, w1, Option.bind_some]
  dsimp only
  rw [hlen, Option.bind_some]
/-- the law's stretch, its tail -/
def LT (g e f l : FF) (v : CV) (i : Nat) (b on : Int32) : Option (Bool × FF × FF × FF × FF × CV) :=
  (if on = 0 then some 0 else some b : Option Int32).bind (fun u58 =>
    if on = 0 then
      (fn_X6_stretch v (nI i) b).bind (fun u61 => if u61.1 = (e (5 * i) + b) then some (true, (upd g 5 ((g 5) + u58)), (upd e (5 * i) (e (5 * i) + b)), f, l, u61.2) else none)
    else
      if ((g 5) + u58) = 0 then
        (f_L_done (upd g 5 ((g 5) + u58)) (upd e (5 * i) (e (5 * i) + b)) f).bind (fun u66 => (fn_X6_stretch v (nI i) b).bind (fun u67 => if u67.1 = (e (5 * i) + b) then some (true, u66.1, u66.2.1, u66.2.2, l, u67.2) else none))
      else
        (fn_X6_stretch v (nI i) b).bind (fun u64 => if u64.1 = (e (5 * i) + b) then some (true, (upd g 5 ((g 5) + u58)), (upd e (5 * i) (e (5 * i) + b)), f, l, u64.2) else none))
def LF (g e f l : FF) (v : CV) (i : Nat) (b : Int32) : Option (Bool × FF × FF × FF × FF × CV) :=
  (fa_L_stretches v (nI i) b).bind (fun u47 => if u47.1 = (-2000003) then some (true, g, e, f, l, u47.2) else none)
theorem K403t {v : CV} {g e f l s : FF} {n m k i : Nat} {b : Int32} (hJ : JR v g e f l s n m k) (hi : i < n) (hb1 : ¬ b < -1800) (hb2 : b ≤ 1800) (hP : ¬ pL s i + b < 1 ∧ ¬ 3600 < pL s i + b ∧ (pS s i = 0 ∨ (pS s i = 1 ∧ ¬ pB s i + (pL s i + b) < s 0))) : AK (LT g e f l v i b (if pS s i = 1 then 1 else 0)) := by
  obtain ⟨h0, hl, hin, hS, hR, hEN, hOV, hBG⟩ := hJ
  have hR' := hR
  have hA := hR.2
  obtain ⟨⟨r1, r2, r3, g0, g1, g2, g3, g6, g7, g8, s7, s8, s9, hE, hF, hN⟩, -⟩ := hR
  obtain ⟨q', c', w1, w2⟩ := sv8 hS
  have hh : f_X0_has v.1.1 (nI i) = some true := hasN h0.1 hi
  have hlen : v.1.1.2.1 i = pL s i := (h0.1.2.2.2 i hi).1
  have hcan := canX h0 hin hi (pL s i + b)
  rw [decide_eq_true hP] at hcan
  obtain ⟨L, L1, L2, L3⟩ := len_r hP.1 (Int32.not_lt.mp hP.2.1)
  have hst : pS s i = 0 ∨ (pS s i = 1 ∧ ¬ pB s i + nI L < s 0) := by rw [← L3]; exact hP.2.2
  obtain ⟨h', s', k1, k2, k3, k4, k5⟩ := len2 (u := (s, u20)) h0 (LB_t hl) hin hi L1 L2 hst
  have hcls : fn_X6_stretch v (nI i) b = some (nI L, (h', v.2.1, q', c', v.2.2.2.2)) := by
    rw [← L3, ← hlen]
    exact stO (by omega) hh hb1 hb2 (by rw [hlen]; exact hcan) w1 (by rw [hlen, L3]; exact k1)
  have he0 : e (5 * i) + b = nI L := by rw [EL0 hE hi, L3]
  unfold LT
  rw [hcls, he0]
  rcases len7r (u := (s, u20)) (by omega) k2 with ⟨q1, q2⟩ | ⟨q1, q2⟩
  · -- it waits
    have q1' : ¬ pS s i = 1 := q1
    have hs' : s' = upd s (10 + 5 * i) (nI L) := congrArg Prod.fst q2
    have y : ∀ j : Nat, j ≠ 10 + 5 * i → s' j = s j := fun j hj => by rw [hs', pk_un hj]
    rw [if_neg q1', if_pos rfl, Option.bind_some, if_pos rfl, Option.bind_some, if_pos rfl, Int32.add_zero]
    have gg : ∀ j : Nat, upd g 5 (g 5) j = g j := fun j => by
      by_cases hj : j = 5
      · rw [hj, pk_us]
      · rw [pk_un hj]
    refine ⟨_, _, _, _, _, rfl, s', n, m, k, k3, k4.2.2.2 trivial, k5, w2, ⟨⟨r1, r2, r3, (gg 0).trans g0, (gg 1).trans g1, ((gg 2).trans g2).trans (y 0 (by omega)).symm, ((gg 3).trans g3).trans (y 1 (by omega)).symm, ((gg 6).trans g6).trans (y 5 (by omega)).symm, ((gg 7).trans g7).trans (y 6 (by omega)).symm, (gg 8).trans g8, (y 7 (by omega)).trans s7, (y 8 (by omega)).trans s8, (y 9 (by omega)).trans s9, EL_up (w0 := 0) hE hi (by omega) (by rw [hs', Nat.add_zero, pk_us]) (fun a w ha hw hq => y _ (by omega)), FL_cg hF (fun a w ha hw => y _ (by omega)), NL_cg hN (fun a w ha hw => y _ (by omega))⟩, AIR_cg hA (gg 4) (gg 5) (y 0 (by omega)) (y 2 (by omega)) (y 3 (by omega)) (y 4 (by omega))⟩, EN_cg hEN (AIR_a hA) (by omega) (by omega) (y 2 (by omega)) (y 3 (by omega)) (y 4 (by omega)) (fun a ha z => ?_), fun z => ?_, BG_cg hBG (fun a ha => y _ (by omega))⟩
    · have hai : a ≠ i := fun w => q1' (by rw [← w]; exact z)
      exact ⟨y _ (by omega), y _ (by omega), y _ (by omega)⟩
    · rw [y 1 (by omega)] at z
      exact (y 2 (by omega)).trans (hOV z)
  · -- it is on the air
    have q1' : pS s i = 1 := q1
    obtain ⟨-, bb, -, -, a2, a3⟩ : pS s i = 1 ∧ ∃ b : Nat, b ≤ 3600 * (pCE s n + pCF s m) ∧ pB s i = nI b ∧ s 2 = 1 ∧ s 3 = nI i := by
      rcases (hin.1 i hi).2.2 with ⟨q, -⟩ | q | q | q
      · rw [q] at q1'; exact absurd q1' (by decide)
      · exact q
      · rw [q] at q1'; exact absurd q1' (by decide)
      · rw [q] at q1'; exact absurd q1' (by decide)
    have hend := (hEN i hi a2 a3).2
    have hg5 : g 5 = s 4 - s 0 := by
      rcases hA with ⟨q, -⟩ | ⟨-, -, q⟩ | ⟨q, -⟩ | ⟨q, -⟩
      · rw [a2] at q; exact absurd q (by decide)
      · exact q
      · rw [a2] at q; exact absurd q (by decide)
      · rw [a2] at q; exact absurd q (by decide)
    obtain ⟨s2, hs2⟩ : ∃ s2 : FF, s2 = upd (upd s (10 + 5 * i) (nI L)) 4 (pB s i + nI L) := ⟨_, rfl⟩
    have y : ∀ j : Nat, j ≠ 4 → j ≠ 10 + 5 * i → s2 j = s j := fun j j4 hj => by rw [hs2, pk_un j4, pk_un hj]
    have y4 : s2 4 = pB s i + nI L := by rw [hs2, pk_us]
    have yL : pL s2 i = nI L := by unfold pL; rw [hs2, pk_un (by omega), pk_us]
    have hg5b : g 5 + b = s2 4 - s2 0 := by
      rw [hg5, y4, y 0 (by omega) (by omega), hend, ← L3]
      simp only [Int32.sub_eq_add_neg]
      ac_rfl
    have gg : ∀ j : Nat, j ≠ 5 → upd g 5 (g 5 + b) j = g j := fun j hj => pk_un hj
    have hRs : RW (upd g 5 (g 5 + b)) (upd e (5 * i) (nI L)) f l s2 n m k := by
      refine ⟨⟨r1, r2, r3, (gg 0 (by omega)).trans g0, (gg 1 (by omega)).trans g1, ((gg 2 (by omega)).trans g2).trans (y 0 (by omega) (by omega)).symm, ((gg 3 (by omega)).trans g3).trans (y 1 (by omega) (by omega)).symm, ((gg 6 (by omega)).trans g6).trans (y 5 (by omega) (by omega)).symm, ((gg 7 (by omega)).trans g7).trans (y 6 (by omega) (by omega)).symm, (gg 8 (by omega)).trans g8, (y 7 (by omega) (by omega)).trans s7, (y 8 (by omega) (by omega)).trans s8, (y 9 (by omega) (by omega)).trans s9, EL_up (w0 := 0) hE hi (by omega) (by rw [Nat.add_zero]; exact yL) (fun a w ha hw hq => y _ (by omega) (by omega)), FL_cg hF (fun a w ha hw => y _ (by omega) (by omega)), NL_cg hN (fun a w ha hw => y _ (by omega) (by omega))⟩, ?_⟩
      unfold AIR at hA ⊢
      rw [gg 4 (by omega), y 2 (by omega) (by omega), y 3 (by omega) (by omega), pk_us, hg5b]
      rcases hA with ⟨q, -⟩ | ⟨q, z, -⟩ | ⟨q, -⟩ | ⟨q, -⟩
      · rw [a2] at q; exact absurd q (by decide)
      · exact Or.inr (Or.inl ⟨q, z, rfl⟩)
      · rw [a2] at q; exact absurd q (by decide)
      · rw [a2] at q; exact absurd q (by decide)
    rw [if_pos q1', if_neg (by decide), Option.bind_some, if_neg (by decide)]
    rcases q2 with ⟨z1, z2⟩ | ⟨z1, z2⟩
    · have z1' : s2 4 = s2 0 := by rw [y4, y 0 (by omega) (by omega)]; exact z1
      have z2' : f_X7_endsOnAir (s2, u20) = some (s', u20) := by rw [hs2]; exact z2
      rw [if_pos (by rw [hg5b, z1', Int32.sub_self])]
      obtain ⟨e', f', p1, p2, p3, p4⟩ := Ldo (u := (s2, u20)) hRs (by show s2 2 ≠ 0; rw [y 2 (by omega) (by omega), a2]; decide) z2'
      rw [p1, Option.bind_some, Option.bind_some, if_pos rfl]
      have p3' : s' 2 = 0 := p3
      exact ⟨_, _, _, _, _, rfl, s', n, m, k, k3, k4.2.2.2 trivial, k5, w2, p2, EN_n (by rw [p3']; decide), fun _ => p3', BG_cg hBG (fun a ha => (p4 a ha).trans (y _ (by omega) (by omega)))⟩
    · have z1' : ¬ s2 4 = s2 0 := by rw [y4, y 0 (by omega) (by omega)]; exact z1
      have hs' : s' = s2 := by rw [hs2]; exact congrArg Prod.fst z2
      rw [if_neg (fun q => z1' (by
        rw [hg5b] at q
        have := Int32.sub_add_cancel (s2 4) (s2 0)
        rw [q, Int32.zero_add] at this
        exact this.symm)), Option.bind_some, if_pos rfl]
      rw [hs'] at k3 k4 k5
      refine ⟨_, _, _, _, _, rfl, s2, n, m, k, k3, k4.2.2.2 trivial, k5, w2, hRs, fun a ha x2 x3 => ?_, fun x => ?_, BG_cg hBG (fun a ha => y _ (by omega) (by omega))⟩
      · obtain rfl : i = a := by
          rw [y 3 (by omega) (by omega), a3, nI_eq (by omega) (by omega)] at x3
          exact x3
        have x4 : pS s2 i = pS s i := y _ (by omega) (by omega)
        have x5 : pB s2 i = pB s i := y _ (by omega) (by omega)
        exact ⟨x4.trans q1', by rw [y4, x5, yL]⟩
      · rw [y 1 (by omega) (by omega)] at x
        have := hOV x
        rw [a2] at this
        exact absurd this (by decide)
theorem K403f {v : CV} {g e f l s : FF} {n m k i : Nat} {b : Int32} (hJ : JR v g e f l s n m k) (hi : i < n) (hb1 : ¬ b < -1800) (hb2 : b ≤ 1800) (hP : ¬ (¬ pL s i + b < 1 ∧ ¬ 3600 < pL s i + b ∧ (pS s i = 0 ∨ (pS s i = 1 ∧ ¬ pB s i + (pL s i + b) < s 0)))) : AK (LF g e f l v i b) := by
  have hJ' := hJ
  obtain ⟨h0, hl, hin, hS, hR, hEN, hOV, hBG⟩ := hJ
  have hcan := canX h0 hin hi (pL s i + b)
  rw [decide_eq_false hP] at hcan
  have hn := h0.1.1
  have hlen : v.1.1.2.1 i = pL s i := (h0.1.2.2.2 i hi).1
  unfold LF
  rw [stR (by omega) (hasN h0.1 hi) hb1 hb2 (by rw [hlen]; exact hcan), Option.bind_some, if_pos rfl]
  exact ⟨_, _, _, _, _, rfl, s, n, m, k, hJ'⟩
/-- the law's element -/
def UE (g : FF) (u2 : Int32) : Prop := ∀ n : Nat, n ≤ 6 → g 0 = nI n → (n = 0 → u2 = 0) ∧ (n ≠ 0 → ∃ i : Nat, i < n ∧ u2 = nI i)
theorem K403 {v : CV} {g e f l : FF} {V : Nat} {u2 : Int32} (hJ : JJ v g e f l) (hV : V < 10000000) (hu : UE g u2) (p0 : Int32) : AK (k_L_acts_403 g e f l v u2 (nI V) p0) := by
  obtain ⟨s, n, m, k, hJ⟩ := hJ
  have hJ' := hJ
  obtain ⟨h0, hl, hin, hS, hR, hEN, hOV, hBG⟩ := hJ
  obtain ⟨⟨r1, r2, r3, g0, g1, g2, g3, g6, g7, g8, s7, s8, s9, hE, hF, hN⟩, hA⟩ := hR
  obtain ⟨M, C, hM, hC, hM1, hMC, hM2⟩ : ∃ M C : Nat, (if (nI V - nI V / 2 * 2) = 0 then some 3601 else some 201 : Option Int32) = some (nI M) ∧ (if (nI V - nI V / 2 * 2) = 0 then some 1800 else some 100 : Option Int32) = some (nI C) ∧ 1 ≤ M ∧ M = 2 * C + 1 ∧ C ≤ 1800 := by
    by_cases hc : (nI V - nI V / 2 * 2) = 0
    · exact ⟨3601, 1800, by rw [if_pos hc]; rfl, by rw [if_pos hc]; rfl, by omega, by omega, by omega⟩
    · exact ⟨201, 100, by rw [if_neg hc]; rfl, by rw [if_neg hc]; rfl, by omega, by omega, by omega⟩
  have hMn : ¬ nI M = 0 := (show ¬ nI M = nI 0 from by rw [nI_eq (by omega) (by omega)]; omega)
  have hby : (nI V / 6) - (nI V / 6) / nI M * nI M = nI (V / 6 % M) := by
    have e1 : nI V / 6 = nI (V / 6) := pk_div (d := 6) (by omega) (by omega) (by omega)
    rw [e1]
    exact rmd (by omega) M (by omega) (by omega)
  have hmod : V / 6 % M < M := Nat.mod_lt _ (by omega)
  obtain ⟨b, hb, hb1, hb2⟩ : ∃ b : Int32, b = nI (V / 6 % M) - nI C ∧ ¬ b < -1800 ∧ b ≤ 1800 := by
    refine ⟨_, rfl, ?_, ?_⟩
    · rw [Int32.lt_iff_toInt_lt, pk_sub_toInt (by omega) (by omega), show (-1800 : Int32).toInt = -1800 from rfl]
      omega
    · rw [Int32.le_iff_toInt_le, pk_sub_toInt (by omega) (by omega), show (1800 : Int32).toInt = 1800 from rfl]
      omega
  unfold k_L_acts_403
  rw [hM, Option.bind_some, if_neg hMn, hC, Option.bind_some, hby, ← hb]
  obtain ⟨hu0, hu1⟩ := hu n r1 g0
  by_cases hn0 : n = 0
  · subst hn0
    rw [if_pos (show g 0 = 0 from g0)]
    have hh : f_X0_has v.1.1 0 = some false := by
      rcases x0has h0.1 0 with ⟨-, j, hj, -⟩ | ⟨q, -⟩
      · exact absurd hj (Nat.not_lt_zero _)
      · exact q
    have hf : fa_L_stretches v 0 b = some (-2000001, v) := by
      unfold fa_L_stretches f_X6_stretch
      rw [hh, Option.bind_some, if_pos zb0]
      rfl
    rw [hf, Option.bind_some, if_pos rfl]
    exact ⟨_, _, _, _, _, rfl, s, 0, m, k, hJ'⟩
  · obtain ⟨i, hi, rfl⟩ := hu1 hn0
    have hne : ¬ g 0 = 0 := by
      rw [g0]
      show ¬ nI n = nI 0
      rw [nI_eq (by omega) (by omega)]; exact hn0
    have z0 : zin (nI (5 * i)) 30 = true := zin_n (by omega) (by omega)
    have z3 : zin (nI (5 * i + 3)) 30 = true := zin_n (by omega) (by omega)
    have z4 : zin (nI (5 * i + 4)) 30 = true := zin_n (by omega) (by omega)
    have c0 : (nI (5 * i)).toNatClampNeg = 5 * i := cl_n (by omega)
    have c3 : (nI (5 * i + 3)).toNatClampNeg = 5 * i + 3 := cl_n (by omega)
    have c4 : (nI (5 * i + 4)).toNatClampNeg = 5 * i + 4 := cl_n (by omega)
    rw [if_neg hne, l54, l53, l50]
    simp only [z0, z3, z4, c0, c3, c4, if_true, EL3 hE hi, EL4 hE hi]
    have hL0 := EL0 hE hi
    -- refused
    have hno : ∀ hP : ¬ (¬ pL s i + b < 1 ∧ ¬ 3600 < pL s i + b ∧ (pS s i = 0 ∨ (pS s i = 1 ∧ ¬ pB s i + (pL s i + b) < s 0))), AK ((fa_L_stretches v (nI i) b).bind (fun u47 => if u47.1 = (-2000003) then some (true, g, e, f, l, u47.2) else none)) := fun hP => K403f hJ' hi hb1 hb2 hP
    have hgo := K403t hJ' hi hb1 hb2
    by_cases h1 : pL s i + b < 1
    · have hx : e (5 * i) + b < 1 := by rw [hL0]; exact h1
      by_cases hs1 : pS s i = 1
      · rw [if_pos hs1, Option.bind_some, if_pos hx]
        exact hno (fun q => q.1 h1)
      · rw [if_neg hs1, Option.bind_some, if_pos hx]
        exact hno (fun q => q.1 h1)
    have hx1 : ¬ e (5 * i) + b < 1 := by rw [hL0]; exact h1
    by_cases h2 : 3600 < pL s i + b
    · have hx : 3600 < e (5 * i) + b := by rw [hL0]; exact h2
      by_cases hs1 : pS s i = 1
      · rw [if_pos hs1, Option.bind_some, if_neg hx1, if_pos hx]
        exact hno (fun q => q.2.1 h2)
      · rw [if_neg hs1, Option.bind_some, if_neg hx1, if_pos hx]
        exact hno (fun q => q.2.1 h2)
    have hx2 : ¬ 3600 < e (5 * i) + b := by rw [hL0]; exact h2
    rcases (hin.1 i hi).2.2 with ⟨q, -⟩ | ⟨q, -⟩ | q | q
    · have hs1 : ¬ pS s i = 1 := by rw [q]; decide
      have := hgo ⟨h1, h2, Or.inl q⟩
      rw [if_neg hs1] at this
      rw [if_neg hs1, Option.bind_some, if_neg hx1, if_neg hx2, if_neg (by rw [q]; decide), if_pos rfl]
      exact this
    · rw [if_pos q, Option.bind_some, if_neg hx1, if_neg hx2, if_neg (by rw [q]; decide), if_neg (by decide), hL0, g2]
      have := hgo
      rw [if_pos q] at this
      by_cases hc : s 0 ≤ pB s i + (pL s i + b)
      · rw [if_pos hc]
        have := this ⟨h1, h2, Or.inr ⟨q, Int32.not_lt.mpr hc⟩⟩
        unfold LT at this
        rw [hL0] at this
        exact this
      · rw [if_neg hc]
        exact hno (fun w => by
          rcases w.2.2 with w | w
          · rw [q] at w; exact absurd w (by decide)
          · exact hc (Int32.not_lt.mp w.2))
    · have hs1 : ¬ pS s i = 1 := by rw [q]; decide
      rw [if_neg hs1, Option.bind_some, if_neg hx1, if_neg hx2, if_pos (by rw [q]; decide)]
      exact hno (fun w => by
        rcases w.2.2 with w | w
        · rw [q] at w; exact absurd w (by decide)
        · rw [q] at w; exact absurd w.1 (by decide))
    · have hs1 : ¬ pS s i = 1 := by rw [q]; decide
      rw [if_neg hs1, Option.bind_some, if_neg hx1, if_neg hx2, if_pos (by rw [q]; decide)]
      exact hno (fun w => by
        rcases w.2.2 with w | w
        · rw [q] at w; exact absurd w (by decide)
        · rw [q] at w; exact absurd w.1 (by decide))
