/-! The pure part: an element or a filler is put behind the others. -/
theorem pGr_0 (s : FF) : ∀ n : Nat, 0 ≤ (pGr s n).toInt := by
  intro n
  induction n with
  | zero => exact Int.le_refl _
  | succ n ih =>
    have e1 : pGr s (n + 1) = if pLate s n ≤ pGr s n then pGr s n else pLate s n := by
      unfold pGr
      rw [pF_last, Nat.zero_add]
    rw [e1]
    by_cases hc : pLate s n ≤ pGr s n
    · rw [if_pos hc]; exact ih
    · rw [if_neg hc]
      rw [Int32.le_iff_toInt_le] at hc
      omega
theorem pGr_s {s : FF} {n : Nat} (h : pLate s n = -1) : pGr s (n + 1) = pGr s n := by
  have e1 : pGr s (n + 1) = if pLate s n ≤ pGr s n then pGr s n else pLate s n := by
    unfold pGr
    rw [pF_last, Nat.zero_add]
  have h0 := pGr_0 s n
  have h1 : (-1 : Int32).toInt = -1 := rfl
  rw [e1, h, if_pos (by rw [Int32.le_iff_toInt_le]; omega)]
theorem ade2 {E : Prop} {h : HV} {u : MV} {n m k : Nat} {l t r : Int32} (h0 : HR0 h u.1 n m) (hl : LB E h.2.2.1 u.1 k) (hin : pIn u.1 n m k) (hn12 : n < 12) (hl1 : ∃ l' : Nat, 1 ≤ l' ∧ l' ≤ 3600 ∧ l = nI l') (ht1 : t = -1 ∨ ∃ t' : Nat, t' ≤ 3599 ∧ t = nI t') :
    ∃ (e' : EV) (s' : FF), f_X0_add h.1 l t r = some e' ∧ f_X7_putElement u l t r = some (s', u.2) ∧ e'.1 = nI (n + 1) ∧ s' 7 = nI (n + 1) ∧ HR0 (e', h.2) s' (n + 1) m ∧ LB E h.2.2.1 s' k ∧ pIn s' (n + 1) m k ∧ ∀ j : Nat, (j < 7 ∨ j = 8 ∨ j = 9) → s' j = u.1 j := by
  obtain ⟨r1, r2, r3, r4, r5, r6, r7, r8⟩ := h0
  have hm := r2.1
  have h7 : u.1 7 = nI n := r1.2.2.1
  have i0 : (10 + (5 * nI n)) + 0 = nI (10 + 5 * n + 0) := x7i (w := 0)
  have i1 : (10 + (5 * nI n)) + 1 = nI (10 + 5 * n + 1) := x7i (w := 1)
  have i2 : (10 + (5 * nI n)) + 2 = nI (10 + 5 * n + 2) := x7i (w := 2)
  have i3 : (10 + (5 * nI n)) + 3 = nI (10 + 5 * n + 3) := x7i (w := 3)
  have i4 : (10 + (5 * nI n)) + 4 = nI (10 + 5 * n + 4) := x7i (w := 4)
  obtain ⟨s', hs'⟩ : ∃ s' : FF, s' = upd (upd (upd (upd (upd (upd u.1 (10 + 5 * n + 0) l) (10 + 5 * n + 1) t) (10 + 5 * n + 2) r) (10 + 5 * n + 3) 0) (10 + 5 * n + 4) (-1)) 7 (nI (n + 1)) := ⟨_, rfl⟩
  have zz : ∀ j : Nat, j ≠ 7 → (j < 10 + 5 * n ∨ 10 + 5 * n + 5 ≤ j) → s' j = u.1 j := fun j q1 q2 => by
    rw [hs', pk_un q1, pk_un (by omega), pk_un (by omega), pk_un (by omega), pk_un (by omega), pk_un (by omega)]
  have z7 : s' 7 = nI (n + 1) := by rw [hs', pk_us]
  have zL : pL s' n = l := by unfold pL; rw [hs', pk_un (by omega), pk_un (by omega), pk_un (by omega), pk_un (by omega), pk_un (by omega), Nat.add_zero, pk_us]
  have zT : pT s' n = t := by unfold pT; rw [hs', pk_un (by omega), pk_un (by omega), pk_un (by omega), pk_un (by omega), pk_us]
  have zK : pK s' n = r := by unfold pK; rw [hs', pk_un (by omega), pk_un (by omega), pk_un (by omega), pk_us]
  have zS : pS s' n = 0 := by unfold pS; rw [hs', pk_un (by omega), pk_un (by omega), pk_us]
  have zB : pB s' n = -1 := by unfold pB; rw [hs', pk_un (by omega), pk_us]
  have hL : ∀ j : Nat, j < n → pL s' j = pL u.1 j := fun j hj => zz _ (by omega) (by omega)
  have hT : ∀ j : Nat, j < n → pT s' j = pT u.1 j := fun j hj => zz _ (by omega) (by omega)
  have hK : ∀ j : Nat, j < n → pK s' j = pK u.1 j := fun j hj => zz _ (by omega) (by omega)
  have hS : ∀ j : Nat, j < n → pS s' j = pS u.1 j := fun j hj => zz _ (by omega) (by omega)
  have hB : ∀ j : Nat, j < n → pB s' j = pB u.1 j := fun j hj => zz _ (by omega) (by omega)
  have hfL : ∀ j : Nat, j < m → pfL s' j = pfL u.1 j := fun j hj => zz _ (by omega) (by omega)
  have hfS : ∀ j : Nat, j < m → pfS s' j = pfS u.1 j := fun j hj => zz _ (by omega) (by omega)
  have hfB : ∀ j : Nat, j < m → pfB s' j = pfB u.1 j := fun j hj => zz _ (by omega) (by omega)
  have hF : pCF s' m = pCF u.1 m := pC_cong m (fun j hj => by rw [hfS j hj])
  have hE : pCE s' (n + 1) = pCE u.1 n := by
    show pC (fun i => decide (pS s' i ≠ 0)) n + (if decide (pS s' n ≠ 0) = true then 1 else 0) = _
    rw [if_neg (by rw [zS]; decide), Nat.add_zero]
    exact pC_cong n (fun j hj => by rw [hS j hj])
  have hC : ∀ B : Nat, pCT u.1 n B ≤ pCT s' (n + 1) B := fun B => by
    have q : pC (fun i => decide (pT u.1 i ≠ -1 ∧ pT u.1 i ≤ nI B)) n ≤ pC (fun i => decide (pT s' i ≠ -1 ∧ pT s' i ≤ nI B)) (n + 1) := by
      rw [pC_cong (P := fun i => decide (pT u.1 i ≠ -1 ∧ pT u.1 i ≤ nI B)) (Q := fun i => decide (pT s' i ≠ -1 ∧ pT s' i ≤ nI B)) n (fun j hj => by rw [hT j hj])]
      exact Nat.le_add_right _ _
    unfold pCT
    omega
  have hcl : (nI n).toNatClampNeg = n := cl_n (by omega)
  have hz : zin (nI n) 12 = true := zin_n hn12 (by omega)
  obtain ⟨e', he'⟩ : ∃ e' : EV, e' = (nI (n + 1), upd h.1.2.1 n l, upd h.1.2.2.1 n t, upd h.1.2.2.2.1 n r, upd h.1.2.2.2.2.1 n 0, upd h.1.2.2.2.2.2 n (-1)) := ⟨_, rfl⟩
  refine ⟨e', s', ?_, ?_, by rw [he'], z7, ⟨⟨by omega, by rw [he'], z7, fun j hj => ?_⟩, ⟨hm, r2.2.1, by rw [zz 8 (by omega) (by omega)]; exact r2.2.2.1, fun j hj => ?_⟩, ?_, ?_, ?_, ?_, ?_, ?_⟩, LB_cg hl (fun j q1 q2 => zz j (by omega) (by omega)), ⟨fun j hj => ?_, fun j hj => by rw [hfL j hj]; exact hin.2.1 j hj, by rw [zz 1 (by omega) (by omega)]; exact hin.2.2.1, ?_⟩, fun j hj => zz j (by omega) (by omega)⟩
  · unfold f_X0_add
    have hlt : nI n < (12 : Int32) := by
      show nI n < nI 12
      rw [nI_ltI (by omega) (by omega)]; exact hn12
    rw [r1.2.1, if_pos hlt, if_pos hz, if_pos hz, if_pos hz, if_pos hz, if_pos hz, hcl, nI_1, he']
  · unfold f_X7_putElement
    rw [h7, i0, i1, i2, i3, i4, if_pos (zin_n (by omega) (by omega)), if_pos (zin_n (by omega) (by omega)), if_pos (zin_n (by omega) (by omega)), if_pos (zin_n (by omega) (by omega)), if_pos (zin_n (by omega) (by omega)), cl_n (by omega), cl_n (by omega), cl_n (by omega), cl_n (by omega), cl_n (by omega), pk_un (show 7 ≠ 10 + 5 * n + 4 by omega), pk_un (show 7 ≠ 10 + 5 * n + 3 by omega), pk_un (show 7 ≠ 10 + 5 * n + 2 by omega), pk_un (show 7 ≠ 10 + 5 * n + 1 by omega), pk_un (show 7 ≠ 10 + 5 * n + 0 by omega), h7, nI_1, hs']
  · rw [he']
    by_cases hjn : j = n
    · subst hjn
      rw [zL, zT, zK, zS, zB]
      exact ⟨pk_us, pk_us, pk_us, pk_us, pk_us⟩
    · obtain ⟨e1, e2, e3, e4, e5⟩ := r1.2.2.2 j (by omega)
      rw [hL j (by omega), hT j (by omega), hK j (by omega), hS j (by omega), hB j (by omega)]
      exact ⟨(pk_un hjn).trans e1, (pk_un hjn).trans e2, (pk_un hjn).trans e3, (pk_un hjn).trans e4, (pk_un hjn).trans e5⟩
  · rw [hfL j hj, hfS j hj, hfB j hj]
    exact r2.2.2.2 j hj
  · exact r3.trans (zz 0 (by omega) (by omega)).symm
  · exact r4.trans (zz 1 (by omega) (by omega)).symm
  · exact r5.trans (zz 5 (by omega) (by omega)).symm
  · rw [pGr_s (by unfold pLate; rw [zB]; split <;> rfl), pGr_cong (s' := s') (s := u.1) (fun j hj => pLate_ag (hT j hj) (hB j hj))]; exact r6
  · exact r7.trans (zz 6 (by omega) (by omega)).symm
  · rw [zz 2 (by omega) (by omega), zz 3 (by omega) (by omega), zz 4 (by omega) (by omega)]; exact r8
  · rw [hE, hF, zz 2 (by omega) (by omega), zz 3 (by omega) (by omega)]
    by_cases hjn : j = n
    · subst hjn
      rw [zL, zT, zS, zB]
      exact ⟨hl1, ht1, Or.inl ⟨rfl, rfl⟩⟩
    · rw [hL j (by omega), hT j (by omega), hS j (by omega), hB j (by omega)]
      exact hin.1 j (by omega)
  · obtain ⟨-, -, -, sec, a4, a5, a6⟩ := hin
    rw [hE, hF, zz 0 (by omega) (by omega), zz 2 (by omega) (by omega), zz 3 (by omega) (by omega), zz 4 (by omega) (by omega)]
    refine ⟨sec, a4, a5, ?_⟩
    have hC1 := hC sec
    rcases a6 with ⟨b1, b2⟩ | ⟨en, b1, b2, b3, ⟨b4, ⟨a, b5, b5'⟩, b6⟩ | ⟨b4, b5, b6⟩ | ⟨b4, b5, b6⟩⟩
    · exact Or.inl ⟨b1, by omega⟩
    · exact Or.inr ⟨en, b1, b2, b3, Or.inl ⟨b4, ⟨a, by omega, b5'⟩, by omega⟩⟩
    · exact Or.inr ⟨en, b1, b2, b3, Or.inr (Or.inl ⟨b4, b5, by omega⟩)⟩
    · have hC2 := hC en
      exact Or.inr ⟨en, b1, b2, b3, Or.inr (Or.inr ⟨b4, b5, by omega⟩)⟩
theorem adf2 {E : Prop} {h : HV} {u : MV} {n m k : Nat} {l : Int32} (h0 : HR0 h u.1 n m) (hl : LB E h.2.2.1 u.1 k) (hin : pIn u.1 n m k) (hm10 : m < 10) (hl1 : ∃ l' : Nat, 1 ≤ l' ∧ l' ≤ 900 ∧ l = nI l') :
    ∃ (f' : FV) (s' : FF), f_X1_add h.2.1 l = some f' ∧ f_X7_putFiller u l = some (s', u.2) ∧ f'.1 = nI (m + 1) ∧ s' 8 = nI (m + 1) ∧ HR0 (h.1, f', h.2.2) s' n (m + 1) ∧ LB E h.2.2.1 s' k ∧ pIn s' n (m + 1) k ∧ ∀ j : Nat, (j < 8 ∨ j = 9) → s' j = u.1 j := by
  obtain ⟨r1, r2, r3, r4, r5, r6, r7, r8⟩ := h0
  have hn := r1.1
  have h8 : u.1 8 = nI m := r2.2.2.1
  have i0 : (70 + (3 * nI m)) + 0 = nI (70 + 3 * m + 0) := x7j (w := 0)
  have i1 : (70 + (3 * nI m)) + 1 = nI (70 + 3 * m + 1) := x7j (w := 1)
  have i2 : (70 + (3 * nI m)) + 2 = nI (70 + 3 * m + 2) := x7j (w := 2)
  obtain ⟨s', hs'⟩ : ∃ s' : FF, s' = upd (upd (upd (upd u.1 (70 + 3 * m + 0) l) (70 + 3 * m + 1) 0) (70 + 3 * m + 2) (-1)) 8 (nI (m + 1)) := ⟨_, rfl⟩
  have zz : ∀ j : Nat, j ≠ 8 → (j < 70 + 3 * m ∨ 70 + 3 * m + 3 ≤ j) → s' j = u.1 j := fun j q1 q2 => by
    rw [hs', pk_un q1, pk_un (by omega), pk_un (by omega), pk_un (by omega)]
  have z8 : s' 8 = nI (m + 1) := by rw [hs', pk_us]
  have zL : pfL s' m = l := by unfold pfL; rw [hs', pk_un (by omega), pk_un (by omega), pk_un (by omega), Nat.add_zero, pk_us]
  have zS : pfS s' m = 0 := by unfold pfS; rw [hs', pk_un (by omega), pk_un (by omega), pk_us]
  have zB : pfB s' m = -1 := by unfold pfB; rw [hs', pk_un (by omega), pk_us]
  have hL : ∀ j : Nat, j < n → pL s' j = pL u.1 j := fun j hj => zz _ (by omega) (by omega)
  have hT : ∀ j : Nat, j < n → pT s' j = pT u.1 j := fun j hj => zz _ (by omega) (by omega)
  have hS : ∀ j : Nat, j < n → pS s' j = pS u.1 j := fun j hj => zz _ (by omega) (by omega)
  have hB : ∀ j : Nat, j < n → pB s' j = pB u.1 j := fun j hj => zz _ (by omega) (by omega)
  have hfL : ∀ j : Nat, j < m → pfL s' j = pfL u.1 j := fun j hj => zz _ (by omega) (by omega)
  have hfS : ∀ j : Nat, j < m → pfS s' j = pfS u.1 j := fun j hj => zz _ (by omega) (by omega)
  have hfB : ∀ j : Nat, j < m → pfB s' j = pfB u.1 j := fun j hj => zz _ (by omega) (by omega)
  have hE : pCE s' n = pCE u.1 n := pC_cong n (fun j hj => by rw [hS j hj])
  have hF : pCF s' (m + 1) = pCF u.1 m := by
    show pC (fun i => decide (pfS s' i ≠ 0)) m + (if decide (pfS s' m ≠ 0) = true then 1 else 0) = _
    rw [if_neg (by rw [zS]; decide), Nat.add_zero]
    exact pC_cong m (fun j hj => by rw [hfS j hj])
  have hTT : ∀ B : Nat, pCT s' n B = pCT u.1 n B := fun B => by
    unfold pCT
    rw [pC_cong n (fun j hj => by rw [hT j hj])]
  have hcl : (nI m).toNatClampNeg = m := cl_n (by omega)
  have hz : zin (nI m) 10 = true := zin_n hm10 (by omega)
  obtain ⟨f', hf'⟩ : ∃ f' : FV, f' = (nI (m + 1), upd h.2.1.2.1 m l, upd h.2.1.2.2.1 m 0, upd h.2.1.2.2.2.1 m (-1), h.2.1.2.2.2.2) := ⟨_, rfl⟩
  refine ⟨f', s', ?_, ?_, by rw [hf'], z8, ⟨ER_ag r1 (fun j q1 q2 q3 => zz j (by omega) (by omega)), ⟨by omega, by rw [hf'], z8, fun j hj => ?_⟩, ?_, ?_, ?_, ?_, ?_, ?_⟩, LB_cg hl (fun j q1 q2 => zz j (by omega) (by omega)), ⟨fun j hj => ?_, fun j hj => ?_, by rw [zz 1 (by omega) (by omega)]; exact hin.2.2.1, ?_⟩, fun j hj => zz j (by omega) (by omega)⟩
  · unfold f_X1_add
    have hlt : nI m < (10 : Int32) := by
      show nI m < nI 10
      rw [nI_ltI (by omega) (by omega)]; exact hm10
    rw [r2.2.1, if_pos hlt, if_pos hz, if_pos hz, if_pos hz, hcl, nI_1, hf']
  · unfold f_X7_putFiller
    rw [h8, i0, i1, i2, if_pos (zin_n (by omega) (by omega)), if_pos (zin_n (by omega) (by omega)), if_pos (zin_n (by omega) (by omega)), cl_n (by omega), cl_n (by omega), cl_n (by omega), pk_un (show 8 ≠ 70 + 3 * m + 2 by omega), pk_un (show 8 ≠ 70 + 3 * m + 1 by omega), pk_un (show 8 ≠ 70 + 3 * m + 0 by omega), h8, nI_1, hs']
  · rw [hf']
    by_cases hjn : j = m
    · subst hjn
      rw [zL, zS, zB]
      exact ⟨pk_us, pk_us, pk_us⟩
    · obtain ⟨e1, e2, e3⟩ := r2.2.2.2 j (by omega)
      rw [hfL j (by omega), hfS j (by omega), hfB j (by omega)]
      exact ⟨(pk_un hjn).trans e1, (pk_un hjn).trans e2, (pk_un hjn).trans e3⟩
  · exact r3.trans (zz 0 (by omega) (by omega)).symm
  · exact r4.trans (zz 1 (by omega) (by omega)).symm
  · exact r5.trans (zz 5 (by omega) (by omega)).symm
  · rw [pGr_cong (s' := s') (s := u.1) (fun j hj => pLate_ag (hT j hj) (hB j hj))]; exact r6
  · exact r7.trans (zz 6 (by omega) (by omega)).symm
  · rw [zz 2 (by omega) (by omega), zz 3 (by omega) (by omega), zz 4 (by omega) (by omega)]; exact r8
  · rw [hE, hF, zz 2 (by omega) (by omega), zz 3 (by omega) (by omega), hL j hj, hT j hj, hS j hj, hB j hj]
    exact hin.1 j hj
  · by_cases hjn : j = m
    · subst hjn
      rw [zL]
      exact hl1
    · rw [hfL j (by omega)]
      exact hin.2.1 j (by omega)
  · obtain ⟨-, -, -, sec, a4, a5, a6⟩ := hin
    rw [hE, hF, zz 0 (by omega) (by omega), zz 2 (by omega) (by omega), zz 3 (by omega) (by omega), zz 4 (by omega) (by omega)]
    simp only [hTT]
    refine ⟨sec, a4, a5, ?_⟩
    rcases a6 with ⟨b1, b2⟩ | ⟨en, b1, b2, b3, ⟨b4, b5, b6⟩ | ⟨b4, ⟨a, b5, b5'⟩, b6⟩ | ⟨b4, b5, b6⟩⟩
    · exact Or.inl ⟨b1, b2⟩
    · exact Or.inr ⟨en, b1, b2, b3, Or.inl ⟨b4, b5, b6⟩⟩
    · exact Or.inr ⟨en, b1, b2, b3, Or.inr (Or.inl ⟨b4, ⟨a, by omega, b5'⟩, b6⟩)⟩
    · exact Or.inr ⟨en, b1, b2, b3, Or.inr (Or.inr ⟨b4, b5, b6⟩)⟩
