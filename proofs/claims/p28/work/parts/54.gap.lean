/-! The pure part: a gap is filled. -/
theorem sub_add' (a b : Int32) : a + (b - a) = b := by rw [Int32.add_comm, Int32.sub_add_cancel]
theorem sil2 {E : Prop} {h : HV} {u : MV} {n m k sec t : Nat} (h0 : HR0 h u.1 n m) (hl : LB E h.2.2.1 u.1 k) (hin : pIn u.1 n m k) (hair : u.1 2 = 0) (hsec : u.1 0 = nI sec) (hsec2 : sec < 2 ^ 31) (hst : sec < t) (ht : t ≤ 3600) (hg : t = 3600 ∨ ∃ i : Nat, i < n ∧ pT u.1 i = nI t) :
    ∃ (h' : HV) (s' : FF), f_X2_putOnAir h 2 (-1) (nI t) = some h' ∧ f_X7_goesOnAir u 3 (-1) (nI t - u.1 0) = some (s', u.2) ∧ HR0 h' s' n m ∧ LB E h'.2.2.1 s' (k + 1) ∧ pIn s' n m (k + 1) ∧ s' 2 ≠ 0 ∧ s' 0 = u.1 0 ∧ s' 1 = u.1 1 := by
  obtain ⟨r1, r2, r3, r4, r5, r6, r7, r8⟩ := h0
  have hn := r1.1
  have hm := r2.1
  have hk := pIn_room hn hm hin hair hsec hsec2 hst ht hg
  obtain ⟨l', s', g1, g2, g3, g4, g5, g6, g7⟩ := air2 (E := E) (h := h) (u := u) (k := k) r3 hl hk 2 (-1) (nI t - u.1 0)
  rw [sub_add'] at g1 g6
  refine ⟨_, s', g1, g2, ⟨ER_ag r1 (fun j q1 q2 q3 => g7 j (by omega) q2 (by omega) (by omega) (by omega)), FR_ag r2 (fun j q1 q2 => g7 j q1 (by omega) (by omega) (by omega) (by omega)), ?_, ?_, ?_, ?_, ?_, ?_⟩, g3, pIn_sil hn hm hin hair hsec hsec2 hst ht hg g4 g5 g6 (fun j q1 q2 q3 q4 q5 => g7 j q1 q2 q3 q4 q5), by rw [g4]; decide, g7 0 (by omega) (by omega) (by omega) (by omega) (by omega), g7 1 (by omega) (by omega) (by omega) (by omega) (by omega)⟩
  · exact r3.trans (g7 0 (by omega) (by omega) (by omega) (by omega) (by omega)).symm
  · exact r4.trans (g7 1 (by omega) (by omega) (by omega) (by omega) (by omega)).symm
  · exact r5.trans (g7 5 (by omega) (by omega) (by omega) (by omega) (by omega)).symm
  · exact r6.trans (pGr_cong (fun j hj => pLate_ag (g7 _ (by omega) (by omega) (by omega) (by omega) (by omega)) (g7 _ (by omega) (by omega) (by omega) (by omega) (by omega)))).symm
  · exact r7.trans (g7 6 (by omega) (by omega) (by omega) (by omega) (by omega)).symm
  · exact Or.inr ⟨2, by omega, rfl, g4, g5.symm, g6.symm⟩
theorem fil2 {E : Prop} {h : HV} {u : MV} {n m k sec i : Nat} (h0 : HR0 h u.1 n m) (hl : LB E h.2.2.1 u.1 k) (hin : pIn u.1 n m k) (hair : u.1 2 = 0) (hsec : u.1 0 = nI sec) (hsec2 : sec < 2 ^ 31) (hk : k < 35) (hi : i < m) (hw : pfS u.1 i = 0) :
    ∃ (h' : HV) (s' : FF), f_X2_putOnAir (h.1, (h.2.1.1, h.2.1.2.1, (upd h.2.1.2.2.1 i 1), (upd h.2.1.2.2.2.1 i h.2.2.2.1), h.2.1.2.2.2.2), h.2.2.1, h.2.2.2.1, h.2.2.2.2.1, h.2.2.2.2.2.1, h.2.2.2.2.2.2.1, h.2.2.2.2.2.2.2.1, h.2.2.2.2.2.2.2.2.1, h.2.2.2.2.2.2.2.2.2.1, h.2.2.2.2.2.2.2.2.2.2) 1 (nI i) (h.2.2.2.1 + (h.2.1.2.1 i)) = some h' ∧ f_X7_beginsFiller u (nI i) = some (s', u.2) ∧ HR0 h' s' n m ∧ LB E h'.2.2.1 s' (k + 1) ∧ pIn s' n m (k + 1) ∧ s' 2 ≠ 0 ∧ s' 0 = u.1 0 ∧ s' 1 = u.1 1 := by
  obtain ⟨r1, r2, r3, r4, r5, r6, r7, r8⟩ := h0
  have hn := r1.1
  have hm := r2.1
  obtain ⟨s1, hs1⟩ : ∃ s1 : FF, s1 = upd (upd u.1 (70 + 3 * i + 1) 1) (70 + 3 * i + 2) (u.1 0) := ⟨_, rfl⟩
  have a1 : ∀ j : Nat, j ≠ 70 + 3 * i + 1 → j ≠ 70 + 3 * i + 2 → s1 j = u.1 j := fun j q1 q2 => by rw [hs1, pk_un q2, pk_un q1]
  have a2 : pfS s1 i = 1 := by unfold pfS; rw [hs1, pk_un (by omega), pk_us]
  have a3 : pfB s1 i = u.1 0 := by unfold pfB; rw [hs1, pk_us]
  have a0 : s1 0 = u.1 0 := a1 0 (by omega) (by omega)
  have hlen : h.2.1.2.1 i = pfL u.1 i := (r2.2.2.2 i hi).1
  have hF1 : FR (h.2.1.1, h.2.1.2.1, (upd h.2.1.2.2.1 i 1), (upd h.2.1.2.2.2.1 i h.2.2.2.1), h.2.1.2.2.2.2) s1 m := by
    refine ⟨hm, r2.2.1, by rw [a1 8 (by omega) (by omega)]; exact r2.2.2.1, fun j hj => ?_⟩
    obtain ⟨e1, e2, e3⟩ := r2.2.2.2 j hj
    have q1 : pfL s1 j = pfL u.1 j := a1 _ (by omega) (by omega)
    rw [q1]
    refine ⟨e1, ?_, ?_⟩
    · show upd h.2.1.2.2.1 i 1 j = _
      by_cases hji : j = i
      · subst hji; rw [pk_us, a2]
      · rw [pk_un hji]; exact e2.trans (a1 _ (by omega) (by omega)).symm
    · show upd h.2.1.2.2.2.1 i h.2.2.2.1 j = _
      by_cases hji : j = i
      · subst hji; rw [pk_us, a3]; exact r3
      · rw [pk_un hji]; exact e3.trans (a1 _ (by omega) (by omega)).symm
  obtain ⟨l', s', g1, g2, g3, g4, g5, g6, g7⟩ := air2 (E := E) (h := (h.1, (h.2.1.1, h.2.1.2.1, (upd h.2.1.2.2.1 i 1), (upd h.2.1.2.2.2.1 i h.2.2.2.1), h.2.1.2.2.2.2), h.2.2.1, h.2.2.2.1, h.2.2.2.2.1, h.2.2.2.2.2.1, h.2.2.2.2.2.2.1, h.2.2.2.2.2.2.2.1, h.2.2.2.2.2.2.2.2.1, h.2.2.2.2.2.2.2.2.2.1, h.2.2.2.2.2.2.2.2.2.2)) (u := (s1, u.2)) (k := k) (r3.trans a0.symm) (LB_ag hl (fun j hj => a1 j (by omega) (by omega))) hk 1 (nI i) (pfL u.1 i)
  have g7' : ∀ j : Nat, j < 100 → j ≠ 9 → j ≠ 2 → j ≠ 3 → j ≠ 4 → j ≠ 70 + 3 * i + 1 → j ≠ 70 + 3 * i + 2 → s' j = u.1 j := fun j q1 q2 q3 q4 q5 q6 q7 => (g7 j q1 q2 q3 q4 q5).trans (a1 j q6 q7)
  have b1 : pfS s' i = 1 := (g7 _ (by omega) (by omega) (by omega) (by omega) (by omega)).trans a2
  have g6' : s' 4 = u.1 0 + pfL u.1 i := g6.trans (congrArg (· + pfL u.1 i) a0)
  refine ⟨(h.1, (h.2.1.1, h.2.1.2.1, (upd h.2.1.2.2.1 i 1), (upd h.2.1.2.2.2.1 i h.2.2.2.1), h.2.1.2.2.2.2), l', h.2.2.2.1, h.2.2.2.2.1, h.2.2.2.2.2.1, h.2.2.2.2.2.2.1, h.2.2.2.2.2.2.2.1, nI 1, nI i, s1 0 + pfL u.1 i), s', ?_, ?_, ⟨ER_ag r1 (fun j q1 q2 q3 => g7' j (by omega) q2 (by omega) (by omega) (by omega) (by omega) (by omega)), FR_ag hF1 (fun j q1 q2 => g7 j q1 (by omega) (by omega) (by omega) (by omega)), ?_, ?_, ?_, ?_, ?_, Or.inr ⟨1, by omega, rfl, g4, g5.symm, g6.symm⟩⟩, g3, pIn_fil hn hm hin hair hsec hsec2 hi hw b1 g4 g5 (by rw [g6', hsec]) g7', by rw [g4]; decide, g7' 0 (by omega) (by omega) (by omega) (by omega) (by omega) (by omega) (by omega), g7' 1 (by omega) (by omega) (by omega) (by omega) (by omega) (by omega) (by omega)⟩
  · have q : h.2.2.2.1 + h.2.1.2.1 i = s1 0 + pfL u.1 i := by rw [hlen, r3, a0]
    rw [q]
    exact g1
  · unfold f_X7_beginsFiller
    have e3 : (70 + (3 * nI i)) + 1 = nI (70 + 3 * i + 1) := x7j (w := 1)
    have e4 : (70 + (3 * nI i)) + 2 = nI (70 + 3 * i + 2) := x7j (w := 2)
    rw [e3, e4, if_pos (zin_n (by omega) (by omega)), if_pos (zin_n (by omega) (by omega)), cl_n (by omega), cl_n (by omega), pk_un (show 0 ≠ 70 + 3 * i + 1 by omega), ← hs1]
    have q1 := x7f0 (u := (s1, u.2)) (i := i) (by omega)
    have q1' : f_X7_ofFiller (s1, u.2.1, u.2.2.1, u.2.2.2.1, u.2.2.2.2.1, u.2.2.2.2.2.1, u.2.2.2.2.2.2.1, u.2.2.2.2.2.2.2.1, u.2.2.2.2.2.2.2.2.1, u.2.2.2.2.2.2.2.2.2.1, u.2.2.2.2.2.2.2.2.2.2) (nI i) 0 = some (pfL s1 i) := q1
    rw [q1']
    simp only [Option.bind_some]
    have q2 : pfL s1 i = pfL u.1 i := a1 _ (by omega) (by omega)
    rw [q2]
    have g2' : f_X7_goesOnAir (s1, u.2.1, u.2.2.1, u.2.2.2.1, u.2.2.2.2.1, u.2.2.2.2.2.1, u.2.2.2.2.2.2.1, u.2.2.2.2.2.2.2.1, u.2.2.2.2.2.2.2.2.1, u.2.2.2.2.2.2.2.2.2.1, u.2.2.2.2.2.2.2.2.2.2) 2 (nI i) (pfL u.1 i) = some (s', u.2) := g2
    rw [g2']
    rfl
  · exact r3.trans (g7' 0 (by omega) (by omega) (by omega) (by omega) (by omega) (by omega) (by omega)).symm
  · exact r4.trans (g7' 1 (by omega) (by omega) (by omega) (by omega) (by omega) (by omega) (by omega)).symm
  · exact r5.trans (g7' 5 (by omega) (by omega) (by omega) (by omega) (by omega) (by omega) (by omega)).symm
  · exact r6.trans (pGr_cong (fun j hj => pLate_ag (g7' _ (by omega) (by omega) (by omega) (by omega) (by omega) (by omega) (by omega)) (g7' _ (by omega) (by omega) (by omega) (by omega) (by omega) (by omega) (by omega)))).symm
  · exact r7.trans (g7' 6 (by omega) (by omega) (by omega) (by omega) (by omega) (by omega) (by omega)).symm
