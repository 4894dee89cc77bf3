/-! The law's last look: all that the class tells is what the law's arrays hold. -/
theorem SL1 {v : CV} {g e f l s : FF} {n m k j i : Nat} (hJ : JR v g e f l s n m k) (hj : f_X0_nextFixed v.1.1 0 = some (nI j)) (hjn : j ≤ n) (hi : i < n) (x : Int32) : s_L_isSo_65 g e f l v (nI j) (x, 1, nI i) = some (.inl (if pLate s i ≤ x then x else pLate s i, 1, nI (i + 1))) := by
  obtain ⟨hH, hL, hin, hq, ⟨⟨r1, r2, r3, g0, g1, g2, g3, g6, g7, g8, s7, s8, s9, hE, hF, hN⟩, hA⟩, hEN, hov, hBG⟩ := hJ
  have hER := hH.1
  have hTM : TM s n := fun i hi => (hin.1 i hi).2.1
  -- the next fixed one behind it
  obtain ⟨j1, b1, b2, b3, b4, b5⟩ := Lfx (i := i + 1) r1 g0 hE hTM (by omega)
  obtain ⟨j2, d1, d2, d3, -, d5, d6⟩ := nf2 (u := uM s) hER (i := i + 1) (by omega)
  obtain rfl : j2 = j1 := nf_v b1 d1 b2 d2 b4 b5 d5 d6
  obtain ⟨t1, c1, c2, c3⟩ := Ltm r1 g0 hE b2
  obtain ⟨t2, e1, -, e2, e3⟩ := tm2 (u := uM s) hER b2
  have ht : t2 = t1 := by
    by_cases hc : j2 < n
    · exact (e2 hc).trans (c2 hc).symm
    · exact (e3 (by omega)).trans (c3 (by omega)).symm
  subst ht
  have hs1 := Lsm (i := i) (j := j2) r1 hE (by omega) b2
  have hs2 := wl0 hER (i := i) (j := j2) (by omega) b2
  have hz : ∀ w : Nat, w < 5 → zin (nI (5 * i + w)) 30 = true := fun w hw => zin_n (by omega) (by omega)
  have hc : ∀ w : Nat, w < 5 → (nI (5 * i + w)).toNatClampNeg = 5 * i + w := fun w hw => cl_n (by omega)
  have z0 : zin (nI (5 * i)) 30 = true := zin_n (by omega) (by omega)
  have c0 : (nI (5 * i)).toNatClampNeg = 5 * i := cl_n (by omega)
  have u14 : (if pT s i < 0 then some (-1) else if 0 ≤ pB s i then (if zin (nI (5 * i + 1)) 30 = true then some (pB s i - pT s i) else none) else some (-1) : Option Int32) = some (pLate s i) := by
    unfold pLate
    simp only [TM_n hTM hi, BG_p hBG hi]
    by_cases q1 : pT s i = -1
    · rw [if_pos q1, if_pos q1]
    · rw [if_neg q1, if_neg q1]
      by_cases q2 : pB s i = -1
      · rw [if_neg (fun h => h q2), if_pos q2]
      · rw [if_pos q2, if_pos (hz 1 (by omega)), if_neg q2]
  have hbk : ∃ b : Int32, fn_X6_backTime v (nI i) = some b ∧ (if pS s i = 0 then (f_L_timeAt g e (nI j2)).bind (fun u48 => (f_L_sum e (nI i) (nI j2)).bind (fun u49 => some (u48 - u49))) else some (-10000) : Option Int32) = some b := by
    unfold fn_X6_backTime f_X0_latestBegin
    rw [hasN hER hi, Option.bind_some, if_neg zb1, wt0 hER hi, Option.bind_some]
    by_cases q : pS s i = 0
    · refine ⟨t2 - pSum (pS s) (pL s) (j2 - i) i 0, ?_, ?_⟩
      · rw [decide_eq_true q, if_neg zb1, nI_1, d3, Option.bind_some, e1, Option.bind_some, hs2, Option.bind_some, Option.bind_some]
      · rw [if_pos q, c1, Option.bind_some, hs1, Option.bind_some]
    · exact ⟨-10000, by rw [decide_eq_false q, if_pos zb0, Option.bind_some], by rw [if_neg q]⟩
  obtain ⟨bk, hb1, hb2⟩ := hbk
  have u16 : (if pLate s i ≤ x then some x else some (pLate s i) : Option Int32) = some (if pLate s i ≤ x then x else pLate s i) := by
    by_cases q : pLate s i ≤ x
    · rw [if_pos q, if_pos q]
    · rw [if_neg q, if_neg q]
  have u40 : (if pS s i = 0 then (if nI j ≤ nI i then some 0 else some 1) else some 0 : Option Int32) = some (if pS s i = 0 then (if nI j ≤ nI i then 0 else 1) else 0) := by
    by_cases q : pS s i = 0
    · rw [if_pos q, if_pos q]
      by_cases q' : nI j ≤ nI i
      · rw [if_pos q', if_pos q']
      · rw [if_neg q', if_neg q']
    · rw [if_neg q, if_neg q]
  have t0 : fn_X6_element v (nI i) 0 = some (pL s i) := qe hER hi (w := 0) (by omega) (te0 hER hi)
  have t1' : fn_X6_element v (nI i) 1 = some (pT s i) := qe hER hi (w := 1) (by omega) (te1 hER hi)
  have t2' : fn_X6_element v (nI i) 2 = some (pK s i) := qe hER hi (w := 2) (by omega) (te2 hER hi)
  have t3' : fn_X6_element v (nI i) 3 = some (pS s i) := qe hER hi (w := 3) (by omega) (te3 hER hi)
  have t4' : fn_X6_element v (nI i) 4 = some (pB s i) := qe hER hi (w := 4) (by omega) (te4 hER hi)
  have t5' : fn_X6_element v (nI i) 5 = some (pLate s i) := qe hER hi (w := 5) (by omega) (te5 hER hi)
  have t6' : fn_X6_element v (nI i) 6 = some (if pS s i = 0 then (if nI j ≤ nI i then 0 else 1) else 0) := qe hER hi (w := 6) (by omega) (te6 hER hi hj)
  unfold s_L_isSo_65
  dsimp only
  rw [g0, if_neg (by rw [nI_leI (by omega) (by omega)]; omega), if_neg (by decide), l54, l53, l52, l51, l50, nI_1, if_pos (hz 4 (by omega)), if_pos (hz 1 (by omega)), hc 4 (by omega), hc 1 (by omega), hc 3 (by omega), hc 2 (by omega), c0, EL4 hE hi, EL3 hE hi, EL2 hE hi, EL1 hE hi, EL0 hE hi, u14, Option.bind_some, u16, Option.bind_some, b3, Option.bind_some, if_pos (hz 3 (by omega)), hb2, Option.bind_some, t0, Option.bind_some, if_pos z0, if_pos rfl, t1', Option.bind_some, if_pos (hz 1 (by omega)), if_pos rfl, t2', Option.bind_some, if_pos (hz 2 (by omega)), if_pos rfl, t3', Option.bind_some, if_pos (hz 3 (by omega)), if_pos rfl, t4', Option.bind_some, if_pos rfl, t5', Option.bind_some, if_pos rfl, t6', Option.bind_some, if_pos (hz 3 (by omega)), u40, Option.bind_some, if_pos rfl, hb1, Option.bind_some, if_pos rfl]
theorem SL2 {v : CV} {g e f l s : FF} {n m k i : Nat} (hJ : JR v g e f l s n m k) (hi : i < m) (c : Nat) (a b : Int32) : s_L_isSo_341 g e f l v a b (1, nI c, nI i) = some (.inl (1, nI (if pfS s i = 0 then c + 1 else c), nI (i + 1))) := by
  obtain ⟨hH, hL, hin, hq, ⟨⟨r1, r2, r3, g0, g1, g2, g3, g6, g7, g8, s7, s8, s9, hE, hF, hN⟩, hA⟩, hEN, hov, hBG⟩ := hJ
  have hFR := hH.2.1
  have hz : ∀ w : Nat, w < 3 → zin (nI (3 * i + w)) 15 = true := fun w hw => zin_n (by omega) (by omega)
  have hc : ∀ w : Nat, w < 3 → (nI (3 * i + w)).toNatClampNeg = 3 * i + w := fun w hw => cl_n (by omega)
  have z0 : zin (nI (3 * i)) 15 = true := zin_n (by omega) (by omega)
  have c0 : (nI (3 * i)).toNatClampNeg = 3 * i := cl_n (by omega)
  have t0 : fn_X6_filler v (nI i) 0 = some (pfL s i) := qf hFR hi (w := 0) (by omega) rfl
  have t1 : fn_X6_filler v (nI i) 1 = some (pfS s i) := qf hFR hi (w := 1) (by omega) rfl
  have t2 : fn_X6_filler v (nI i) 2 = some (pfB s i) := qf hFR hi (w := 2) (by omega) rfl
  have u58 : (if pfS s i = 0 then some 1 else some 0 : Option Int32) = some (if pfS s i = 0 then 1 else 0) := by
    by_cases q : pfS s i = 0
    · rw [if_pos q, if_pos q]
    · rw [if_neg q, if_neg q]
  have hadd : nI c + (if pfS s i = 0 then 1 else 0) = nI (if pfS s i = 0 then c + 1 else c) := by
    by_cases q : pfS s i = 0
    · rw [if_pos q, if_pos q, nI_1]
    · rw [if_neg q, if_neg q, Int32.add_zero]
  unfold s_L_isSo_341
  dsimp only
  rw [g1, if_neg (by rw [nI_leI (by omega) (by omega)]; omega), if_neg (by decide), l32, l31, l30, if_pos (hz 1 (by omega)), hc 1 (by omega), hc 2 (by omega), c0, FL2 hF hi, FL1 hF hi, FL0 hF hi, u58, Option.bind_some, t0, Option.bind_some, if_pos z0, if_pos rfl, t1, Option.bind_some, if_pos (hz 1 (by omega)), if_pos rfl, t2, Option.bind_some, if_pos (hz 2 (by omega)), if_pos rfl, hadd, nI_1]
theorem SL3 {v : CV} {g e f l s : FF} {n m k i : Nat} (hJ : JR v g e f l s n m k) (hi : i < k) (hi2 : i < 21) (a b c : Int32) : s_L_isSo_443 g e f l v a b c (1, nI i) = some (.inl (1, nI (i + 1))) := by
  obtain ⟨hH, hL, hin, hq, ⟨⟨r1, r2, r3, g0, g1, g2, g3, g6, g7, g8, s7, s8, s9, hE, hF, hN⟩, hA⟩, hEN, hov, hBG⟩ := hJ
  have hz : ∀ w : Nat, w < 3 → zin (nI (3 * i + w)) 63 = true := fun w hw => zin_n (by omega) (by omega)
  have hc : ∀ w : Nat, w < 3 → (nI (3 * i + w)).toNatClampNeg = 3 * i + w := fun w hw => cl_n (by omega)
  have z0 : zin (nI (3 * i)) 63 = true := zin_n (by omega) (by omega)
  have c0 : (nI (3 * i)).toNatClampNeg = 3 * i := cl_n (by omega)
  have t0 : fn_X6_entry v (nI i) 0 = some (l (3 * i)) := ql hL hi (w := 0) (by omega) (hN i 0 hi hi2 (by omega)).symm
  have t1 : fn_X6_entry v (nI i) 1 = some (l (3 * i + 1)) := ql hL hi (w := 1) (by omega) (hN i 1 hi hi2 (by omega)).symm
  have t2 : fn_X6_entry v (nI i) 2 = some (l (3 * i + 2)) := ql hL hi (w := 2) (by omega) (hN i 2 hi hi2 (by omega)).symm
  unfold s_L_isSo_443
  dsimp only
  rw [g8, if_neg (by rw [nI_leI (by omega) (by omega)]; omega), if_neg (show ¬ (21 : Int32) ≤ nI i from fun q => absurd ((nI_leI (a := 21) (by omega) (by omega)).mp q) (by omega)), if_neg (by decide), l32, l31, l30, hc 1 (by omega), hc 2 (by omega), c0, t0, Option.bind_some, if_pos z0, if_pos rfl, t1, Option.bind_some, if_pos (hz 1 (by omega)), if_pos rfl, t2, Option.bind_some, if_pos (hz 2 (by omega)), if_pos rfl, nI_1]
theorem A_isSo {v : CV} {g e f l : FF} (hJJ : JJ v g e f l) : f_L_isSo g e f l v = some true := by
  obtain ⟨s, n, m, k, hJ⟩ := hJJ
  have hJ' := hJ
  obtain ⟨hH, hL, hin, hq, ⟨⟨r1, r2, r3, g0, g1, g2, g3, g6, g7, g8, s7, s8, s9, hE, hF, hN⟩, hA⟩, hEN, hov, hBG⟩ := hJ
  have hER := hH.1
  have hFR := hH.2.1
  have hTM : TM s n := fun i hi => (hin.1 i hi).2.1
  obtain ⟨sec, hsec, hsec2⟩ := sec_r (by omega) (by omega) hin
  obtain ⟨j1, -, b2, b3, b4, b5⟩ := Lfx (i := 0) r1 g0 hE hTM (by omega)
  have b3' : f_L_fixed g e 0 = some (nI j1) := b3
  obtain ⟨j, t, d1, d2, -, -, -, d3, -, d4, d5, d6⟩ := goal2 (u := uM s) hER
  obtain rfl : j = j1 := nf_v (Nat.zero_le _) (Nat.zero_le _) b2 d1 b4 (fun k _ h => b5 k (Nat.zero_le _) h) (fun h => (d4 h).2) (fun k _ h => d6 k h)
  obtain ⟨t1, c1, c2, c3⟩ := Ltm r1 g0 hE b2
  have ht : t = t1 := by
    by_cases hc : j < n
    · exact (d4 hc).1.trans (c2 hc).symm
    · exact (d5 (by omega)).trans (c3 (by omega)).symm
  subst ht
  -- the three loops
  have w1 := zlF' (f := s_L_isSo_65 g e f l v (nI j)) (fun a (x : Int32) => (x, 1, nI a)) (fun x => (x, 1, nI n)) (fun i x => if pLate s i ≤ x then x else pLate s i) n
    (fun a x ha => SL1 hJ' d2 d1 ha x)
    (fun x => by
      unfold s_L_isSo_65
      dsimp only
      rw [g0, if_pos (Int32.le_refl _)]) n 0 0 4096 (by omega) (by omega)
  have w1' : zloop (s_L_isSo_65 g e f l v (nI j)) 4096 (0, 1, 0) = some (pGr s n, 1, nI n) := w1
  have w2 := zlF' (f := s_L_isSo_341 g e f l v (nI j) (pGr s n)) (fun a (x : Nat) => (1, nI x, nI a)) (fun x => (1, nI x, nI m)) (fun a x => if pfS s a = 0 then x + 1 else x) m
    (fun a x ha => SL2 hJ' ha x _ _)
    (fun x => by
      unfold s_L_isSo_341
      dsimp only
      rw [g1, if_pos (Int32.le_refl _)]) m 0 0 4096 (by omega) (by omega)
  have w2' : zloop (s_L_isSo_341 g e f l v (nI j) (pGr s n)) 4096 (1, 0, 0) = some (1, nI (pNf s m), nI m) := w2
  have w3 : ∃ z : Int32, zloop (s_L_isSo_443 g e f l v (nI j) (pGr s n) (nI (pNf s m))) 4096 (1, 0) = some (1, z) := by
    have h := zlF' (α := Unit) (f := s_L_isSo_443 g e f l v (nI j) (pGr s n) (nI (pNf s m))) (fun a _ => (1, nI a)) (fun _ => (1, nI (min k 21))) (fun _ x => x) (min k 21)
      (fun a _ ha => SL3 hJ' (by omega) (by omega) _ _ _)
      (fun _ => by
        unfold s_L_isSo_443
        dsimp only
        rw [g8]
        by_cases hk : k ≤ 21
        · rw [if_pos (by rw [nI_leI (by omega) (by omega)]; omega)]
        · rw [if_neg (by rw [nI_leI (by omega) (by omega)]; omega), if_pos (show (21 : Int32) ≤ nI (min k 21) from (nI_leI (a := 21) (by omega) (by omega)).mpr (by omega))]) (min k 21) 0 () 4096 (by omega) (by omega)
    exact ⟨_, h⟩
  obtain ⟨z, w3⟩ := w3
  -- the values
  obtain ⟨h2, h0, hov3, h5, h10, h12, hair⟩ : _ ∧ _ ∧ _ ∧ _ ∧ _ ∧ _ ∧ _ := hH.2
  have v0 : fn_X6_value v 0 = some (g 0) := qv (w := 0) (by omega) (by
    show f_X2_tell v.1 (0 : Int32) = _
    unfold f_X2_tell
    rw [if_pos rfl, hER.2.1, g0])
  have v1 : fn_X6_value v 1 = some (g 1) := qv (w := 1) (by omega) (by
    show f_X2_tell v.1 (1 : Int32) = _
    unfold f_X2_tell
    rw [if_neg (by decide), if_pos rfl, hFR.2.1, g1])
  have v2 : fn_X6_value v 2 = some (g 2) := qv (w := 2) (by omega) (by
    show f_X2_tell v.1 (2 : Int32) = _
    unfold f_X2_tell
    rw [if_neg (by decide), if_neg (by decide), if_pos rfl, h0, g2])
  have v3 : fn_X6_value v 3 = some (g 3) := qv (w := 3) (by omega) (by
    show f_X2_tell v.1 (3 : Int32) = _
    unfold f_X2_tell
    rw [if_neg (by decide), if_neg (by decide), if_neg (by decide), if_pos rfl, g3]
    rcases ov2 hH hin with ⟨q1, q2, -⟩ | ⟨q1, -, q2⟩
    · rw [if_pos q1, q2]
    · rw [if_neg q1, q2])
  have v4 : fn_X6_value v 4 = some (pCn (pS s) 0 n 0 0) := qv (w := 4) (by omega) (by
    show f_X2_tell v.1 (4 : Int32) = _
    unfold f_X2_tell
    rw [if_neg (by decide), if_neg (by decide), if_neg (by decide), if_neg (by decide), if_pos rfl, cn0 hER, Option.bind_some])
  have v5 : fn_X6_value v 5 = some (pCn (pS s) 3 n 0 0) := qv (w := 5) (by omega) (by
    show f_X2_tell v.1 (5 : Int32) = _
    unfold f_X2_tell
    rw [if_neg (by decide), if_neg (by decide), if_neg (by decide), if_neg (by decide), if_neg (by decide), if_pos rfl, cn0 hER, Option.bind_some])
  have v6 : fn_X6_value v 6 = some (nI (pNf s m)) := qv (w := 6) (by omega) (by
    show f_X2_tell v.1 (6 : Int32) = _
    unfold f_X2_tell
    rw [if_neg (by decide), if_neg (by decide), if_neg (by decide), if_neg (by decide), if_neg (by decide), if_neg (by decide), if_pos rfl, cw3 hFR, Option.bind_some])
  have v7 : fn_X6_value v 7 = some (g 6) := qv (w := 7) (by omega) (by
    show f_X2_tell v.1 (7 : Int32) = _
    unfold f_X2_tell
    rw [if_neg (by decide), if_neg (by decide), if_neg (by decide), if_neg (by decide), if_neg (by decide), if_neg (by decide), if_neg (by decide), if_pos rfl, h5, g6])
  have v8 : fn_X6_value v 8 = some t := qv (w := 8) (by omega) (by
    show f_X2_tell v.1 (8 : Int32) = _
    unfold f_X2_tell
    rw [if_neg (by decide), if_neg (by decide), if_neg (by decide), if_neg (by decide), if_neg (by decide), if_neg (by decide), if_neg (by decide), if_neg (by decide), if_pos rfl, d3, Option.bind_some])
  have v9 : ∃ x : Int32, fn_X6_value v 9 = some x ∧ (if g 3 = 1 then some (g 2 - 3600) else some (-1) : Option Int32) = some x := by
    rcases ov2 hH hin with ⟨q1, q2, q3⟩ | ⟨q1, -, q2⟩
    · refine ⟨-1, qv (w := 9) (by omega) ?_, by rw [g3, if_neg q3]⟩
      show f_X2_tell v.1 (9 : Int32) = _
      unfold f_X2_tell
      rw [if_neg (by decide), if_neg (by decide), if_neg (by decide), if_neg (by decide), if_neg (by decide), if_neg (by decide), if_neg (by decide), if_neg (by decide), if_neg (by decide), if_pos rfl, if_pos q1]
    · refine ⟨g 2 - 3600, qv (w := 9) (by omega) ?_, by rw [g3, if_pos q2]⟩
      show f_X2_tell v.1 (9 : Int32) = _
      unfold f_X2_tell
      rw [if_neg (by decide), if_neg (by decide), if_neg (by decide), if_neg (by decide), if_neg (by decide), if_neg (by decide), if_neg (by decide), if_neg (by decide), if_neg (by decide), if_pos rfl, if_neg q1, h0, g2]
  obtain ⟨x9, v9, v9'⟩ := v9
  have v10 : fn_X6_value v 10 = some (pGr s n) := qv (w := 10) (by omega) (by
    show f_X2_tell v.1 (10 : Int32) = _
    unfold f_X2_tell
    rw [if_neg (by decide), if_neg (by decide), if_neg (by decide), if_neg (by decide), if_neg (by decide), if_neg (by decide), if_neg (by decide), if_neg (by decide), if_neg (by decide), if_neg (by decide), if_pos rfl, h10])
  have v11 : fn_X6_value v 11 = some (g 8) := qv (w := 11) (by omega) (by
    show f_X2_tell v.1 (11 : Int32) = _
    unfold f_X2_tell
    rw [if_neg (by decide), if_neg (by decide), if_neg (by decide), if_neg (by decide), if_neg (by decide), if_neg (by decide), if_neg (by decide), if_neg (by decide), if_neg (by decide), if_neg (by decide), if_neg (by decide), if_pos rfl, hL.2.1, g8])
  have v12 : fn_X6_value v 12 = some (g 7) := qv (w := 12) (by omega) (by
    show f_X2_tell v.1 (12 : Int32) = _
    unfold f_X2_tell
    rw [if_neg (by decide), if_neg (by decide), if_neg (by decide), if_neg (by decide), if_neg (by decide), if_neg (by decide), if_neg (by decide), if_neg (by decide), if_neg (by decide), if_neg (by decide), if_neg (by decide), if_neg (by decide), if_pos rfl, h12, g7])
  have v13 : fn_X6_value v 13 = some (g 5) := qv (w := 13) (by omega) (by
    show f_X2_tell v.1 (13 : Int32) = _
    unfold f_X2_tell
    rw [if_neg (by decide), if_neg (by decide), if_neg (by decide), if_neg (by decide), if_neg (by decide), if_neg (by decide), if_neg (by decide), if_neg (by decide), if_neg (by decide), if_neg (by decide), if_neg (by decide), if_neg (by decide), if_neg (by decide)]
    rcases hair with ⟨q1, q2⟩ | ⟨a, a1, q1, q2, -, q4⟩
    · rw [if_pos q1]
      rcases hA with ⟨-, -, p⟩ | ⟨p, -⟩ | ⟨p, -⟩ | ⟨p, -⟩
      · rw [p]
      · rw [q2] at p; exact absurd p (by decide)
      · rw [q2] at p; exact absurd p (by decide)
      · rw [q2] at p; exact absurd p (by decide)
    · rw [if_neg (by rw [q1]; exact of_eq_false (ne1_n (by omega))), q4, h0]
      rcases hA with ⟨p, -⟩ | ⟨-, -, p⟩ | ⟨-, -, p⟩ | ⟨-, -, p⟩
      · rw [q2] at p
        have p' : nI (a + 1) = nI 0 := p
        rw [nI_eq (by omega) (by omega)] at p'
        omega
      · rw [p]
      · rw [p]
      · rw [p])
  -- sounding
  have hso : ∃ x : UInt64, f_X6_sounding v = some x ∧ (if g 2 = 0 then some FP.dconst1 else if zn64 (FP.ddiv (FP.i2d (g 2 - g 6)) (FP.i2d (g 2))) = true then some (FP.ddiv (FP.i2d (g 2 - g 6)) (FP.i2d (g 2))) else none : Option UInt64) = some x ∧ zn64 x = true := by
    unfold f_X6_sounding
    rw [h0, h5, g2, g6, hsec]
    by_cases q : nI sec = 0
    · exact ⟨_, by rw [if_pos q], by rw [if_pos q], zn_one⟩
    · have hs0 : 1 ≤ sec := by
        rcases Nat.eq_zero_or_pos sec with rfl | h
        · exact absurd rfl q
        · exact h
      have hz := zn_div (nI sec - s 5) hs0 hsec2
      exact ⟨_, by rw [if_neg q, if_pos hz], by rw [if_neg q, if_pos hz], hz⟩
  obtain ⟨xs, hs1, hs2, hs3⟩ := hso
  -- beyond the ends
  have o0 : fa_L_elementOf v (g 0) 0 = some (-2000001) := by
    unfold fa_L_elementOf f_X6_element
    have hh : f_X0_has v.1.1 (g 0) = some false := by
      unfold f_X0_has
      rw [g0, hER.2.1, if_neg (of_eq_false (neg_n (by omega))), if_pos (Int32.le_refl _)]
    rw [hh, Option.bind_some, if_pos zb0]
    rfl
  have o1 : fa_L_fillerOf v (g 1) 0 = some (-2000001) := by
    unfold fa_L_fillerOf f_X6_filler
    have hh : f_X1_has v.1.2.1 (g 1) = some false := by
      unfold f_X1_has
      rw [g1, hFR.2.1, if_neg (of_eq_false (neg_n (by omega))), if_pos (Int32.le_refl _)]
    rw [hh, Option.bind_some, if_pos zb0]
    rfl
  have o2 : fa_L_entryOf v (g 8) 0 = some (-2000001) := by
    unfold fa_L_entryOf f_X6_entry
    have hh : f_X3_has v.1.2.2.1 (g 8) = some false := by
      unfold f_X3_has
      rw [g8, hL.2.1, if_neg (of_eq_false (neg_n (by omega))), if_pos (Int32.le_refl _)]
    rw [hh, Option.bind_some, if_pos zb0]
    rfl
  have o3 : fa_L_backOf v (-1) = some (-2000001) := by
    unfold fa_L_backOf f_X6_backTime
    have hh : f_X0_has v.1.1 (-1) = some false := by
      unfold f_X0_has
      rw [if_pos (by decide)]
    rw [hh, Option.bind_some, if_pos zb0]
    rfl
  unfold f_L_isSo
  rw [b3', Option.bind_some, v0, Option.bind_some, if_pos rfl, v1, Option.bind_some, if_pos rfl, v2, Option.bind_some, if_pos rfl, v3, Option.bind_some, if_pos rfl, w1', Option.bind_some, w2', Option.bind_some, w3, Option.bind_some, if_neg (show ¬ (1 : Int32) = 0 by decide), v4, Option.bind_some, Lin r1 g0 hE, Option.bind_some, if_pos rfl, v5, Option.bind_some, Lin r1 g0 hE, Option.bind_some, if_pos rfl, v6, Option.bind_some, if_pos rfl, v7, Option.bind_some, if_pos rfl, v8, Option.bind_some, c1, Option.bind_some, if_pos rfl, v9, Option.bind_some, v9', Option.bind_some, if_pos rfl, v10, Option.bind_some, if_pos rfl, v11, Option.bind_some, if_pos rfl, v12, Option.bind_some, if_pos rfl, v13, Option.bind_some, if_pos rfl, hs2, Option.bind_some, hs1, Option.bind_some, if_pos (zn_cmp hs3), o0, Option.bind_some, if_pos rfl, o1, Option.bind_some, if_pos rfl, o2, Option.bind_some, if_pos rfl, o3, Option.bind_some, if_pos rfl]
