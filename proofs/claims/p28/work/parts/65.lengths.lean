/-! The pure part: an element's length is altered. -/
theorem pIn_len {s s' : FF} {n m k : Nat} (h : pIn s n m k) (hLr : ∀ j : Nat, j < n → ∃ l : Nat, 1 ≤ l ∧ l ≤ 3600 ∧ pL s' j = nI l) (hs : ∀ j : Nat, j < 100 → j ≠ 9 → (∀ a : Nat, a < n → j ≠ 10 + 5 * a) → s' j = s j) (hn : n ≤ 12) (hm : m ≤ 10) : pIn s' n m k := by
  have hT : ∀ j : Nat, j < n → pT s' j = pT s j := fun j hj => hs _ (by omega) (by omega) (fun a ha => by omega)
  have hB : ∀ j : Nat, j < n → pB s' j = pB s j := fun j hj => hs _ (by omega) (by omega) (fun a ha => by omega)
  have hS : ∀ j : Nat, j < n → pS s' j = pS s j := fun j hj => hs _ (by omega) (by omega) (fun a ha => by omega)
  have hfL : ∀ j : Nat, j < m → pfL s' j = pfL s j := fun j hj => hs _ (by omega) (by omega) (fun a ha => by omega)
  have hfS : ∀ j : Nat, j < m → pfS s' j = pfS s j := fun j hj => hs _ (by omega) (by omega) (fun a ha => by omega)
  have hF : pCF s' m = pCF s m := pC_cong m (fun j hj => by rw [hfS j hj])
  have hE : pCE s' n = pCE s n := pC_cong n (fun j hj => by rw [hS j hj])
  have hTT : ∀ B : Nat, pCT s' n B = pCT s n B := fun B => by
    unfold pCT
    rw [pC_cong n (fun j hj => by rw [hT j hj])]
  have y0 : s' 0 = s 0 := hs 0 (by omega) (by omega) (fun a ha => by omega)
  have y1 : s' 1 = s 1 := hs 1 (by omega) (by omega) (fun a ha => by omega)
  have y2 : s' 2 = s 2 := hs 2 (by omega) (by omega) (fun a ha => by omega)
  have y3 : s' 3 = s 3 := hs 3 (by omega) (by omega) (fun a ha => by omega)
  have y4 : s' 4 = s 4 := hs 4 (by omega) (by omega) (fun a ha => by omega)
  obtain ⟨a1, a2, a3, sec, a4, a5, a6⟩ := h
  refine ⟨fun j hj => ?_, fun j hj => by rw [hfL j hj]; exact a2 j hj, by rw [y1]; exact a3, sec, by rw [y0]; exact a4, by rw [hE, hF]; exact a5, ?_⟩
  · rw [hT j hj, hS j hj, hB j hj, hE, hF, y2, y3]
    exact ⟨hLr j hj, (a1 j hj).2⟩
  · rw [y2, y3, y4, hE, hF]
    simp only [hTT]
    exact a6
/-- another end for the element on the air -/
theorem pIn_en {s s' : FF} {n m k sec en : Nat} (hn : n ≤ 12) (hm : m ≤ 10) (h : pIn s n m k) (hair : s 2 = 1) (hsec : s 0 = nI sec) (hsec2 : sec < 2 ^ 31) (hlt : sec < en) (hle : en ≤ 3600 * (1 + pCE s n + pCF s m)) (e4 : s' 4 = nI en) (hs : ∀ j : Nat, j < 100 → j ≠ 9 → j ≠ 4 → s' j = s j) : pIn s' n m k := by
  have hL : ∀ j : Nat, j < n → pL s' j = pL s j := fun j hj => hs _ (by omega) (by omega) (by omega)
  have hT : ∀ j : Nat, j < n → pT s' j = pT s j := fun j hj => hs _ (by omega) (by omega) (by omega)
  have hB : ∀ j : Nat, j < n → pB s' j = pB s j := fun j hj => hs _ (by omega) (by omega) (by omega)
  have hS : ∀ j : Nat, j < n → pS s' j = pS s j := fun j hj => hs _ (by omega) (by omega) (by omega)
  have hfL : ∀ j : Nat, j < m → pfL s' j = pfL s j := fun j hj => hs _ (by omega) (by omega) (by omega)
  have hfS : ∀ j : Nat, j < m → pfS s' j = pfS s j := fun j hj => hs _ (by omega) (by omega) (by omega)
  have hF : pCF s' m = pCF s m := pC_cong m (fun j hj => by rw [hfS j hj])
  have hE : pCE s' n = pCE s n := pC_cong n (fun j hj => by rw [hS j hj])
  have hTT : ∀ B : Nat, pCT s' n B = pCT s n B := fun B => by
    unfold pCT
    rw [pC_cong n (fun j hj => by rw [hT j hj])]
  have aE : pCE s n ≤ n := pC_le _ n
  have aF : pCF s m ≤ m := pC_le _ m
  obtain ⟨a1, a2, a3, sec', a4, a5, a6⟩ := h
  obtain rfl : sec' = sec := by
    rw [hsec, nI_eq hsec2 (by omega)] at a4
    exact a4.symm
  have y2 : s' 2 = s 2 := hs 2 (by omega) (by omega) (by omega)
  have y3 : s' 3 = s 3 := hs 3 (by omega) (by omega) (by omega)
  refine ⟨fun j hj => ?_, fun j hj => by rw [hfL j hj]; exact a2 j hj, by rw [hs 1 (by omega) (by omega) (by omega)]; exact a3, sec', by rw [hs 0 (by omega) (by omega) (by omega)]; exact a4, by rw [hE, hF]; exact a5, ?_⟩
  · rw [hL j hj, hT j hj, hS j hj, hB j hj, hE, hF, y2, y3]
    exact a1 j hj
  · rw [y2, y3, hE, hF]
    simp only [hTT]
    rcases a6 with ⟨b1, b2⟩ | ⟨en', b1, b2, b3, ⟨b4, b5, b6⟩ | ⟨b4, b5, b6⟩ | ⟨b4, b5, b6⟩⟩
    · rw [hair] at b1; exact absurd b1 (by decide)
    · exact Or.inr ⟨en, e4, hlt, hle, Or.inl ⟨b4, b5, b6⟩⟩
    · rw [hair] at b4; exact absurd b4 (by decide)
    · rw [hair] at b4; exact absurd b4 (by decide)
/-- the element on the air ends at once -/
theorem pIn_off {s s' : FF} {n m k : Nat} (hn : n ≤ 12) (hm : m ≤ 10) (h : pIn s n m k) (hair : s 2 = 1)
    (hL : ∀ j : Nat, j < n → pL s' j = pL s j) (hT : ∀ j : Nat, j < n → pT s' j = pT s j) (hB : ∀ j : Nat, j < n → pB s' j = pB s j) (hS : ∀ j : Nat, j < n → pS s' j = pS s j ∨ pS s' j = 2) (hno : ∀ j : Nat, j < n → s 2 = 1 → s 3 = nI j → pS s' j = 2)
    (hfL : ∀ j : Nat, j < m → pfL s' j = pfL s j) (hfS : ∀ j : Nat, j < m → pfS s' j = pfS s j ∨ pfS s' j = 2) (e0 : s' 0 = s 0) (e1 : s' 1 = s 1) (e2 : s' 2 = 0) : pIn s' n m k := by
  have hE : pCE s n ≤ pCE s' n := pC_mono n (fun j hj hp => by
    rcases hS j hj with q | q
    · rw [q]; exact hp
    · rw [q]; decide)
  have hF : pCF s m ≤ pCF s' m := pC_mono m (fun j hj hp => by
    rcases hfS j hj with q | q
    · rw [q]; exact hp
    · rw [q]; decide)
  have hTT : ∀ B : Nat, pCT s' n B = pCT s n B := fun B => by
    unfold pCT
    rw [pC_cong n (fun j hj => by rw [hT j hj])]
  obtain ⟨a1, a2, a3, sec, a4, a5, a6⟩ := h
  have hk : k ≤ pCE s n + pCF s m + pCT s n sec := by
    rcases a6 with ⟨b1, b2⟩ | ⟨en', b1, b2, b3, ⟨b4, b5, b6⟩ | ⟨b4, b5, b6⟩ | ⟨b4, b5, b6⟩⟩
    · exact b2
    · exact b6
    · exact b6
    · rw [hair] at b4; exact absurd b4 (by decide)
  refine ⟨fun j hj => ?_, fun j hj => by rw [hfL j hj]; exact a2 j hj, by rw [e1]; exact a3, sec, by rw [e0]; exact a4, by omega, Or.inl ⟨e2, by rw [hTT]; omega⟩⟩
  obtain ⟨c1, c2, c3⟩ := a1 j hj
  rw [hL j hj, hT j hj, hB j hj]
  refine ⟨c1, c2, ?_⟩
  by_cases hon : s 2 = 1 ∧ s 3 = nI j
  · exact Or.inr (Or.inr (Or.inl (hno j hj hon.1 hon.2)))
  · rcases hS j hj with q | q
    · rw [q]
      rcases c3 with c3 | ⟨c3, b, c4, c5⟩ | c3
      · exact Or.inl c3
      · exact absurd c5.2 hon
      · exact Or.inr (Or.inr c3)
    · exact Or.inr (Or.inr (Or.inl q))
theorem len_r {L : Int32} (h1 : ¬ L < 1) (h2 : L ≤ 3600) : ∃ l : Nat, 1 ≤ l ∧ l ≤ 3600 ∧ L = nI l := by
  have h1' : ¬ L < nI 1 := h1
  have h2' : L ≤ nI 3600 := h2
  rw [Int32.lt_iff_toInt_lt, nI_toInt (by omega)] at h1'
  rw [Int32.le_iff_toInt_le, nI_toInt (by omega)] at h2'
  obtain ⟨l, q1, q2⟩ := nI_of (x := L) (by
    show ¬ L < nI 0
    rw [Int32.lt_iff_toInt_lt, nI_toInt (by omega)]
    omega)
  rw [q2, nI_toInt q1] at h1' h2'
  exact ⟨l, by omega, by omega, q2⟩
theorem can2 {h : HV} {u : MV} {n m k i : Nat} (h0 : HR0 h u.1 n m) (hin : pIn u.1 n m k) (hi : i < n) (L : Int32) : ∃ b : Bool, f_X2_canHaveLength h (nI i) L = some b ∧ f_X7_canBe u (nI i) L = some b ∧ (b = true → (∃ l : Nat, 1 ≤ l ∧ l ≤ 3600 ∧ L = nI l) ∧ (pS u.1 i = 0 ∨ (pS u.1 i = 1 ∧ ¬ pB u.1 i + L < u.1 0))) := by
  obtain ⟨r1, r2, r3, r4, r5, r6, r7, r8⟩ := h0
  have hn := r1.1
  by_cases h1 : L < 1
  · refine ⟨false, ?_, ?_, fun q => by cases q⟩
    · unfold f_X2_canHaveLength
      rw [if_pos h1]
    · unfold f_X7_canBe f_X7_in
      rw [if_pos h1]
      simp only [Option.bind_some]
      rw [if_pos (show zb false = 0 by decide)]
  · by_cases h2 : L ≤ 3600
    · obtain ⟨l, hl1, hl2, hl3⟩ := len_r h1 h2
      have h2' : ¬ (3600 : Int32) < L := Int32.not_lt.mpr h2
      have his := is0 r1 hi 1
      have hbg := bg0 r1 hi
      have hwt := wt0 r1 hi
      have o3 := x7of3 (u := u) (i := i) (by omega)
      have o4 := x7of4 (u := u) (i := i) (by omega)
      have hst : pS u.1 i = 0 ∨ pS u.1 i = 1 ∨ pS u.1 i = 2 ∨ pS u.1 i = 3 := by
        rcases (hin.1 i hi).2.2 with ⟨q, -⟩ | ⟨q, -⟩ | q | q
        · exact Or.inl q
        · exact Or.inr (Or.inl q)
        · exact Or.inr (Or.inr (Or.inl q))
        · exact Or.inr (Or.inr (Or.inr q))
      have hin1 : f_X7_in L 1 3600 = some true := by
        unfold f_X7_in
        rw [if_neg h1, if_neg h2']
      rcases hst with hst | hst | hst | hst
      · refine ⟨true, ?_, ?_, fun _ => ⟨⟨l, hl1, hl2, hl3⟩, Or.inl hst⟩⟩
        · unfold f_X2_canHaveLength
          rw [if_neg h1, if_pos h2, his, hst]
          simp only [Option.bind_some]
          rw [if_pos (by decide), hwt, hst]
          simp only [Option.bind_some]
          exact congrArg some (by decide)
        · unfold f_X7_canBe
          rw [hin1]
          simp only [Option.bind_some]
          rw [if_neg (show ¬ zb true = 0 by decide), o3, hst]
          simp only [Option.bind_some]
          rw [if_neg (by decide), if_pos trivial]
      · by_cases hc : pB u.1 i + L < u.1 0
        · refine ⟨false, ?_, ?_, fun q => by cases q⟩
          · unfold f_X2_canHaveLength
            rw [if_neg h1, if_pos h2, his, hst]
            simp only [Option.bind_some]
            rw [if_neg (by decide), hbg]
            simp only [Option.bind_some]
            rw [r3, if_pos hc]
          · unfold f_X7_canBe
            rw [hin1, Option.bind_some, if_neg (show ¬ zb true = 0 by decide), o3, Option.bind_some, if_neg (by rw [hst]; decide), Option.bind_some, if_neg (by rw [hst]; decide), o4, Option.bind_some, if_pos hc]
        · refine ⟨true, ?_, ?_, fun _ => ⟨⟨l, hl1, hl2, hl3⟩, Or.inr ⟨hst, hc⟩⟩⟩
          · unfold f_X2_canHaveLength
            rw [if_neg h1, if_pos h2, his, hst]
            simp only [Option.bind_some]
            rw [if_neg (by decide), hbg]
            simp only [Option.bind_some]
            rw [r3, if_neg hc]
          · unfold f_X7_canBe
            rw [hin1, Option.bind_some, if_neg (show ¬ zb true = 0 by decide), o3, Option.bind_some, if_neg (by rw [hst]; decide), Option.bind_some, if_neg (by rw [hst]; decide), o4, Option.bind_some, if_neg hc]
      · refine ⟨false, ?_, ?_, fun q => by cases q⟩
        · unfold f_X2_canHaveLength
          rw [if_neg h1, if_pos h2, his, hst]
          simp only [Option.bind_some]
          rw [if_pos (by decide), hwt, hst]
          simp only [Option.bind_some]
          exact congrArg some (by decide)
        · unfold f_X7_canBe
          rw [hin1]
          simp only [Option.bind_some]
          rw [if_neg (show ¬ zb true = 0 by decide), o3, hst]
          simp only [Option.bind_some]
          rw [if_pos (by decide)]
      · refine ⟨false, ?_, ?_, fun q => by cases q⟩
        · unfold f_X2_canHaveLength
          rw [if_neg h1, if_pos h2, his, hst]
          simp only [Option.bind_some]
          rw [if_pos (by decide), hwt, hst]
          simp only [Option.bind_some]
          exact congrArg some (by decide)
        · unfold f_X7_canBe
          rw [hin1]
          simp only [Option.bind_some]
          rw [if_neg (show ¬ zb true = 0 by decide), o3, hst]
          simp only [Option.bind_some]
          rw [if_pos (by decide)]
    · refine ⟨false, ?_, ?_, fun q => by cases q⟩
      · unfold f_X2_canHaveLength
        rw [if_neg h1, if_neg h2]
      · unfold f_X7_canBe f_X7_in
        rw [if_neg h1, if_pos (Int32.not_le.mp h2)]
        simp only [Option.bind_some]
        rw [if_pos (show zb false = 0 by decide)]
/-- what the reference does with a new length -/
def r7len (w : MV) (p0 L : Int32) : Option (Int32 × MV) :=
  if zin ((10 + (5 * p0)) + 0) 220 = true then
  (f_X7_of ((upd w.1 (((10 + (5 * p0)) + 0).toNatClampNeg) L), w.2.1, w.2.2.1, w.2.2.2.1, w.2.2.2.2.1, w.2.2.2.2.2.1, w.2.2.2.2.2.2.1, w.2.2.2.2.2.2.2.1, w.2.2.2.2.2.2.2.2.1, w.2.2.2.2.2.2.2.2.2.1, w.2.2.2.2.2.2.2.2.2.2) p0 3).bind (fun u10 =>
  if u10 = 1 then
    (f_X7_of ((upd w.1 (((10 + (5 * p0)) + 0).toNatClampNeg) L), w.2.1, w.2.2.1, w.2.2.2.1, w.2.2.2.2.1, w.2.2.2.2.2.1, w.2.2.2.2.2.2.1, w.2.2.2.2.2.2.2.1, w.2.2.2.2.2.2.2.2.1, w.2.2.2.2.2.2.2.2.2.1, w.2.2.2.2.2.2.2.2.2.2) p0 4).bind (fun u12 =>
    if ((upd (upd w.1 (((10 + (5 * p0)) + 0).toNatClampNeg) L) 4 (u12 + L)) 4) = ((upd (upd w.1 (((10 + (5 * p0)) + 0).toNatClampNeg) L) 4 (u12 + L)) 0) then
      (f_X7_endsOnAir ((upd (upd w.1 (((10 + (5 * p0)) + 0).toNatClampNeg) L) 4 (u12 + L)), w.2.1, w.2.2.1, w.2.2.2.1, w.2.2.2.2.1, w.2.2.2.2.2.1, w.2.2.2.2.2.2.1, w.2.2.2.2.2.2.2.1, w.2.2.2.2.2.2.2.2.1, w.2.2.2.2.2.2.2.2.2.1, w.2.2.2.2.2.2.2.2.2.2)).bind (fun u14 =>
      some (L, u14))
    else
      some (L, ((upd (upd w.1 (((10 + (5 * p0)) + 0).toNatClampNeg) L) 4 (u12 + L)), w.2.1, w.2.2.1, w.2.2.2.1, w.2.2.2.2.1, w.2.2.2.2.2.1, w.2.2.2.2.2.2.1, w.2.2.2.2.2.2.2.1, w.2.2.2.2.2.2.2.2.1, w.2.2.2.2.2.2.2.2.2.1, w.2.2.2.2.2.2.2.2.2.2)))
  else
    some (L, ((upd w.1 (((10 + (5 * p0)) + 0).toNatClampNeg) L), w.2.1, w.2.2.1, w.2.2.2.1, w.2.2.2.2.1, w.2.2.2.2.2.1, w.2.2.2.2.2.2.1, w.2.2.2.2.2.2.2.1, w.2.2.2.2.2.2.2.2.1, w.2.2.2.2.2.2.2.2.2.1, w.2.2.2.2.2.2.2.2.2.2)))
  else none
theorem len2 {E : Prop} {h : HV} {u : MV} {n m k i l : Nat} (h0 : HR0 h u.1 n m) (hl : LB E h.2.2.1 u.1 k) (hin : pIn u.1 n m k) (hi : i < n) (hl1 : 1 ≤ l) (hl2 : l ≤ 3600) (hst : pS u.1 i = 0 ∨ (pS u.1 i = 1 ∧ ¬ pB u.1 i + nI l < u.1 0)) :
    ∃ (h' : HV) (s' : FF), f_X2_giveLength h (nI i) (nI l) = some h' ∧ r7len u (nI i) (nI l) = some (nI l, (s', u.2)) ∧ HR0 h' s' n m ∧ LB E h'.2.2.1 s' k ∧ pIn s' n m k := by
  have hn := h0.1.1
  have hm := h0.2.1.1
  have i0 : (10 + (5 * nI i)) + 0 = nI (10 + 5 * i) := x7i (w := 0)
  have hcl : (nI (10 + 5 * i)).toNatClampNeg = 10 + 5 * i := cl_n (by omega)
  obtain ⟨s1, hs1⟩ : ∃ s1 : FF, s1 = upd u.1 (10 + 5 * i) (nI l) := ⟨_, rfl⟩
  have zz : ∀ j : Nat, j ≠ 10 + 5 * i → s1 j = u.1 j := fun j hj => by rw [hs1, pk_un hj]
  have zi : pL s1 i = nI l := by unfold pL; rw [hs1, pk_us]
  obtain ⟨h1, hh1⟩ : ∃ h1 : HV, h1 = ((h.1.1, upd h.1.2.1 i (nI l), h.1.2.2.1, h.1.2.2.2.1, h.1.2.2.2.2.1, h.1.2.2.2.2.2), h.2) := ⟨_, rfl⟩
  obtain ⟨r1, r2, r3, r4, r5, r6, r7, r8⟩ := h0
  have h01 : HR0 h1 s1 n m := by
    rw [hh1]
    refine ⟨⟨hn, r1.2.1, by rw [zz 7 (by omega)]; exact r1.2.2.1, fun j hj => ?_⟩, FR_ag r2 (fun j q1 q2 => zz j (by omega)), r3.trans (zz 0 (by omega)).symm, r4.trans (zz 1 (by omega)).symm, r5.trans (zz 5 (by omega)).symm, ?_, r7.trans (zz 6 (by omega)).symm, ?_⟩
    · obtain ⟨e1, e2, e3, e4, e5⟩ := r1.2.2.2 j hj
      refine ⟨?_, e2.trans (zz _ (by omega)).symm, e3.trans (zz _ (by omega)).symm, e4.trans (zz _ (by omega)).symm, e5.trans (zz _ (by omega)).symm⟩
      show upd h.1.2.1 i (nI l) j = pL s1 j
      by_cases hji : j = i
      · subst hji; rw [pk_us, zi]
      · rw [pk_un hji]; exact e1.trans (zz _ (by omega)).symm
    · rw [pGr_cong (s' := s1) (s := u.1) (fun j hj => pLate_ag (zz _ (by omega)) (zz _ (by omega)))]; exact r6
    · rw [zz 2 (by omega), zz 3 (by omega), zz 4 (by omega)]; exact r8
  have hl01 : LB E h1.2.2.1 s1 k := by rw [hh1]; exact LB_ag hl (fun j hj => zz j (by omega))
  have hin1 : pIn s1 n m k := pIn_len hin (fun j hj => by
    by_cases hji : j = i
    · subst hji; exact ⟨l, hl1, hl2, zi⟩
    · have : pL s1 j = pL u.1 j := zz _ (by omega)
      rw [this]
      exact (hin.1 j hj).1) (fun j _ _ q => zz j (q i hi)) hn hm
  have hgl : f_X2_giveLength h (nI i) (nI l) = (f_X0_is h1.1 (nI i) 1).bind (fun u4 =>
      if (zb u4) = 0 then some h1
      else (f_X0_begunAt h1.1 (nI i)).bind (fun u6 =>
        if h1.2.2.2.1 < (u6 + nI l) then some (h1.1, h1.2.1, h1.2.2.1, h1.2.2.2.1, h1.2.2.2.2.1, h1.2.2.2.2.2.1, h1.2.2.2.2.2.2.1, h1.2.2.2.2.2.2.2.1, h1.2.2.2.2.2.2.2.2.1, h1.2.2.2.2.2.2.2.2.2.1, (u6 + nI l))
        else (f_X2_endAir (h1.1, h1.2.1, h1.2.2.1, h1.2.2.2.1, h1.2.2.2.2.1, h1.2.2.2.2.2.1, h1.2.2.2.2.2.2.1, h1.2.2.2.2.2.2.2.1, h1.2.2.2.2.2.2.2.2.1, h1.2.2.2.2.2.2.2.2.2.1, (u6 + nI l))).bind (fun u8 => some u8))) := by
    unfold f_X2_giveLength
    rw [hasN r1 hi]
    simp only [Option.bind_some]
    rw [if_neg (show ¬ zb true = 0 by decide), if_pos (zin_n (by omega) (by omega)), cl_n (by omega), hh1]
  have o3 := x7of3 (u := (s1, u.2)) (i := i) (by omega)
  have o4 := x7of4 (u := (s1, u.2)) (i := i) (by omega)
  have o3' : f_X7_of (s1, u.2.1, u.2.2.1, u.2.2.2.1, u.2.2.2.2.1, u.2.2.2.2.2.1, u.2.2.2.2.2.2.1, u.2.2.2.2.2.2.2.1, u.2.2.2.2.2.2.2.2.1, u.2.2.2.2.2.2.2.2.2.1, u.2.2.2.2.2.2.2.2.2.2) (nI i) 3 = some (pS s1 i) := o3
  have o4' : f_X7_of (s1, u.2.1, u.2.2.1, u.2.2.2.1, u.2.2.2.2.1, u.2.2.2.2.2.1, u.2.2.2.2.2.2.1, u.2.2.2.2.2.2.2.1, u.2.2.2.2.2.2.2.2.1, u.2.2.2.2.2.2.2.2.2.1, u.2.2.2.2.2.2.2.2.2.2) (nI i) 4 = some (pB s1 i) := o4
  have hS1 : pS s1 i = pS u.1 i := zz _ (by omega)
  have hB1 : pB s1 i = pB u.1 i := zz _ (by omega)
  rcases hst with hst | ⟨hst, hge⟩
  · refine ⟨h1, s1, ?_, ?_, h01, hl01, hin1⟩
    · rw [hgl, is0 h01.1 hi 1, hS1, hst]
      rfl
    · unfold r7len
      rw [i0, if_pos (zin_n (by omega) (by omega)), hcl, ← hs1, o3', hS1, hst]
      simp only [Option.bind_some]
      rw [if_neg (by decide)]
  · obtain ⟨b, hb1, hb2, hb3, hb4⟩ : ∃ b : Nat, b ≤ 3600 * (pCE u.1 n + pCF u.1 m) ∧ pB u.1 i = nI b ∧ u.1 2 = 1 ∧ u.1 3 = nI i := by
      rcases (hin.1 i hi).2.2 with ⟨q, -⟩ | ⟨-, q⟩ | q | q
      · rw [hst] at q; exact absurd q (by decide)
      · exact q
      · rw [hst] at q; exact absurd q (by decide)
      · rw [hst] at q; exact absurd q (by decide)
    obtain ⟨sec, hc1, hc2⟩ : ∃ sec : Nat, u.1 0 = nI sec ∧ sec ≤ 90000 := by
      obtain ⟨-, -, -, sec, b1, b2, -⟩ := hin
      have aE : pCE u.1 n ≤ n := pC_le _ n
      have aF : pCF u.1 m ≤ m := pC_le _ m
      exact ⟨sec, b1, by omega⟩
    have aE : pCE u.1 n ≤ n := pC_le _ n
    have aF : pCF u.1 m ≤ m := pC_le _ m
    have hge' : sec ≤ b + l := by
      rw [hb2, nI_add, hc1, nI_ltI (by omega) (by omega)] at hge
      omega
    have hE1 : pCE s1 n = pCE u.1 n := pC_cong n (fun j hj => by
      have : pS s1 j = pS u.1 j := zz _ (by omega)
      rw [this])
    have hF1 : pCF s1 m = pCF u.1 m := pC_cong m (fun j hj => by
      have : pfS s1 j = pfS u.1 j := zz _ (by omega)
      rw [this])
    obtain ⟨s2, hs2⟩ : ∃ s2 : FF, s2 = upd s1 4 (nI (b + l)) := ⟨_, rfl⟩
    have yy : ∀ j : Nat, j ≠ 4 → s2 j = s1 j := fun j hj => by rw [hs2, pk_un hj]
    have y4 : s2 4 = nI (b + l) := by rw [hs2, pk_us]
    have y0 : s2 0 = nI sec := (yy 0 (by omega)).trans ((zz 0 (by omega)).trans hc1)
    have y2 : s2 2 = 1 := (yy 2 (by omega)).trans ((zz 2 (by omega)).trans hb3)
    have y3 : s2 3 = nI i := (yy 3 (by omega)).trans ((zz 3 (by omega)).trans hb4)
    obtain ⟨h2, hh2⟩ : ∃ h2 : HV, h2 = (h1.1, h1.2.1, h1.2.2.1, h1.2.2.2.1, h1.2.2.2.2.1, h1.2.2.2.2.2.1, h1.2.2.2.2.2.2.1, h1.2.2.2.2.2.2.2.1, h1.2.2.2.2.2.2.2.2.1, h1.2.2.2.2.2.2.2.2.2.1, nI (b + l)) := ⟨_, rfl⟩
    have h02 : HR0 h2 s2 n m := by
      obtain ⟨q1, q2, q3, q4, q5, q6, q7, q8⟩ := h01
      rw [hh2]
      refine ⟨ER_ag q1 (fun j _ _ _ => yy j (by omega)), FR_ag q2 (fun j _ _ => yy j (by omega)), q3.trans (yy 0 (by omega)).symm, q4.trans (yy 1 (by omega)).symm, q5.trans (yy 5 (by omega)).symm, ?_, q7.trans (yy 6 (by omega)).symm, ?_⟩
      · rw [pGr_cong (s' := s2) (s := s1) (fun j hj => pLate_ag (yy _ (by omega)) (yy _ (by omega)))]; exact q6
      · rcases q8 with ⟨-, q8⟩ | ⟨a, a1, a2, a3, a4, a5⟩
        · rw [zz 2 (by omega), hb3] at q8; exact absurd q8 (by decide)
        · exact Or.inr ⟨a, a1, a2, (yy 2 (by omega)).trans a3, a4.trans (yy 3 (by omega)).symm, y4.symm⟩
    have hl02 : LB E h2.2.2.1 s2 k := by rw [hh2]; exact LB_ag hl01 (fun j hj => yy j (by omega))
    have hcls : f_X2_giveLength h (nI i) (nI l) = if nI sec < nI (b + l) then some h2 else (f_X2_endAir h2).bind (fun u8 => some u8) := by
      rw [hgl, is0 h01.1 hi 1, hS1, hst]
      simp only [Option.bind_some]
      rw [if_neg (by decide), bg0 h01.1 hi, hB1, hb2]
      simp only [Option.bind_some]
      rw [nI_add, h01.2.2.1, zz 0 (by omega), hc1, hh2, h01.2.2.1, zz 0 (by omega), hc1]
    have href : r7len u (nI i) (nI l) = if nI (b + l) = nI sec then (f_X7_endsOnAir (s2, u.2)).bind (fun u14 => some (nI l, u14)) else some (nI l, (s2, u.2)) := by
      unfold r7len
      rw [i0, if_pos (zin_n (by omega) (by omega)), hcl, ← hs1, o3', hS1, hst]
      simp only [Option.bind_some]
      rw [if_pos trivial, o4', hB1, hb2]
      simp only [Option.bind_some]
      rw [nI_add, ← hs2, y4, y0]
    by_cases hlt : sec < b + l
    · refine ⟨h2, s2, ?_, ?_, h02, hl02, pIn_en hn hm hin1 ((zz 2 (by omega)).trans hb3) ((zz 0 (by omega)).trans hc1) (by omega) hlt (by rw [hE1, hF1]; omega) y4 (fun j _ _ q => yy j q)⟩
      · rw [hcls, if_pos (by rw [nI_ltI (by omega) (by omega)]; exact hlt)]
      · rw [href, if_neg (by rw [nI_eq (by omega) (by omega)]; omega)]
    · obtain ⟨h', s', g1, g2, g3, g4, g5, g6, g7, g8, g9⟩ := ena2 (u := (s2, u.2)) h02 (by show s2 2 ≠ 0; rw [y2]; decide) (fun _ => ⟨i, hi, y3⟩) (by show s2 2 = 2 → _; rw [y2]; intro q; exact absurd q (by decide))
      have g6' : ∀ j : Nat, j ≠ 2 → j ≠ 3 → j ≠ 4 → (∀ a : Nat, a < n → j ≠ 10 + 5 * a + 3) → (∀ a : Nat, a < m → j ≠ 70 + 3 * a + 1) → s' j = s2 j := g6
      have gg : ∀ j : Nat, j ≠ 2 → j ≠ 3 → j ≠ 4 → (∀ a : Nat, a < n → j ≠ 10 + 5 * a + 3) → (∀ a : Nat, a < m → j ≠ 70 + 3 * a + 1) → s' j = s1 j := fun j q1 q2 q3 q4 q5 => (g6' j q1 q2 q3 q4 q5).trans (yy j q3)
      refine ⟨h', s', ?_, ?_, g3, ?_, pIn_off hn hm hin1 ((zz 2 (by omega)).trans hb3) (fun j hj => gg _ (by omega) (by omega) (by omega) (fun a ha => by omega) (fun a ha => by omega)) (fun j hj => gg _ (by omega) (by omega) (by omega) (fun a ha => by omega) (fun a ha => by omega)) (fun j hj => gg _ (by omega) (by omega) (by omega) (fun a ha => by omega) (fun a ha => by omega)) (fun j hj => (g7 j hj).imp (fun q => q.trans (yy _ (by omega))) id) (fun j hj q1 q2 => g9 j hj y2 ((yy 3 (by omega)).trans q2)) (fun j hj => gg _ (by omega) (by omega) (by omega) (fun a ha => by omega) (fun a ha => by omega)) (fun j hj => (g8 j hj).imp (fun q => q.trans (yy _ (by omega))) id) (gg 0 (by omega) (by omega) (by omega) (fun a ha => by omega) (fun a ha => by omega)) (gg 1 (by omega) (by omega) (by omega) (fun a ha => by omega) (fun a ha => by omega)) g5⟩
      · rw [hcls, if_neg (by rw [nI_ltI (by omega) (by omega)]; exact hlt), g1]
        rfl
      · rw [href, if_pos (by rw [show b + l = sec by omega]), g2]
        rfl
      · rw [g4]
        exact LB_ag hl02 (fun j hj => g6' j (by omega) (by omega) (by omega) (fun a ha => by omega) (fun a ha => by omega))
