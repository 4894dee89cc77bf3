/-! The pure part: an element begins. -/
theorem beg2 {E : Prop} {h : HV} {u : MV} {n m k i : Nat} (h0 : HR0 h u.1 n m) (hl : LB E h.2.2.1 u.1 k) (hin : pIn u.1 n m k) (hair : u.1 2 = 0) (hi : i < n) (hw : pS u.1 i = 0) : ∃ (h' : HV) (s' : FF), f_X2_beginElement h (nI i) = some h' ∧ f_X7_beginsElement u (nI i) = some (s', u.2) ∧ HR0 h' s' n m ∧ LB E h'.2.2.1 s' (k + 1) ∧ pIn s' n m (k + 1) ∧ s' 2 = 1 ∧ s' 0 = u.1 0 ∧ s' 1 = u.1 1 := by
  obtain ⟨r1, r2, r3, r4, r5, r6, r7, r8⟩ := h0
  have hn := r1.1
  have hm := r2.1
  have hhas : f_X0_has h.1 (nI i) = some true := hasN r1 hi
  obtain ⟨sec, hsec⟩ : ∃ sec : Nat, u.1 0 = nI sec ∧ sec < 2 ^ 31 := by
    obtain ⟨-, -, -, sec, q1, q2, -⟩ := hin
    have aE : pCE u.1 n ≤ n := pC_le _ n
    have aF : pCF u.1 m ≤ m := pC_le _ m
    exact ⟨sec, q1, by omega⟩
  have hk : k < 35 := by
    have hin' := pIn_let (s' := upd u.1 (10 + 5 * i + 3) 3) hn hm hin hi hw pk_us (fun j _ _ hj => pk_un hj)
    have := pIn_k hn hm hin'
    omega
  obtain ⟨s1, hs1⟩ : ∃ s1 : FF, s1 = upd (upd u.1 (10 + 5 * i + 3) 1) (10 + 5 * i + 4) (u.1 0) := ⟨_, rfl⟩
  have a1 : ∀ j : Nat, j ≠ 10 + 5 * i + 3 → j ≠ 10 + 5 * i + 4 → s1 j = u.1 j := fun j q1 q2 => by rw [hs1, pk_un q2, pk_un q1]
  have a2 : pS s1 i = 1 := by unfold pS; rw [hs1, pk_un (by omega), pk_us]
  have a3 : pB s1 i = u.1 0 := by unfold pB; rw [hs1, pk_us]
  obtain ⟨e1, he1⟩ : ∃ e1 : EV, e1 = (h.1.1, h.1.2.1, h.1.2.2.1, h.1.2.2.2.1, upd h.1.2.2.2.2.1 i 1, upd h.1.2.2.2.2.2 i (u.1 0)) := ⟨_, rfl⟩
  have hE1 : ER e1 s1 n := by
    refine ⟨hn, by rw [he1]; exact r1.2.1, by rw [a1 7 (by omega) (by omega)]; exact r1.2.2.1, fun j hj => ?_⟩
    obtain ⟨e1', e2', e3', e4', e5'⟩ := r1.2.2.2 j hj
    have q1 : pL s1 j = pL u.1 j := a1 _ (by omega) (by omega)
    have q2 : pT s1 j = pT u.1 j := a1 _ (by omega) (by omega)
    have q3 : pK s1 j = pK u.1 j := a1 _ (by omega) (by omega)
    rw [q1, q2, q3, he1]
    refine ⟨e1', e2', e3', ?_, ?_⟩
    · show upd h.1.2.2.2.2.1 i 1 j = _
      by_cases hji : j = i
      · subst hji; rw [pk_us, a2]
      · rw [pk_un hji]; exact e4'.trans (a1 _ (by omega) (by omega)).symm
    · show upd h.1.2.2.2.2.2 i (u.1 0) j = _
      by_cases hji : j = i
      · subst hji; rw [pk_us, a3]
      · rw [pk_un hji]; exact e5'.trans (a1 _ (by omega) (by omega)).symm
  have hlate : f_X0_lateness e1 (nI i) = some (pLate s1 i) := lt0 hE1 hi
  have hlen : h.1.2.1 i = pL u.1 i := (r1.2.2.2 i hi).1
  obtain ⟨l', s', g1, g2, g3, g4, g5, g6, g7⟩ := air2 (E := E) (h := (e1, h.2.1, h.2.2.1, h.2.2.2.1, h.2.2.2.2.1, h.2.2.2.2.2.1, (if h.2.2.2.2.2.2.1 < pLate s1 i then pLate s1 i else h.2.2.2.2.2.2.1), h.2.2.2.2.2.2.2.1, h.2.2.2.2.2.2.2.2.1, h.2.2.2.2.2.2.2.2.2.1, h.2.2.2.2.2.2.2.2.2.2)) (u := (s1, u.2)) (k := k) (by rw [show (s1, u.2).1 0 = u.1 0 from a1 0 (by omega) (by omega)]; exact r3) (LB_ag hl (fun j hj => a1 j (by omega) (by omega))) hk 0 (nI i) (pL u.1 i)
  have a0 : s1 0 = u.1 0 := a1 0 (by omega) (by omega)
  have g7' : ∀ j : Nat, j < 100 → j ≠ 9 → j ≠ 2 → j ≠ 3 → j ≠ 4 → j ≠ 10 + 5 * i + 3 → j ≠ 10 + 5 * i + 4 → s' j = u.1 j := fun j q1 q2 q3 q4 q5 q6 q7 => (g7 j q1 q2 q3 q4 q5).trans (a1 j q6 q7)
  have b1 : pS s' i = 1 := (g7 _ (by omega) (by omega) (by omega) (by omega) (by omega)).trans a2
  have b2 : pB s' i = u.1 0 := (g7 _ (by omega) (by omega) (by omega) (by omega) (by omega)).trans a3
  have hE' : ER e1 s' n := ER_ag hE1 (fun j q1 q2 q3 => g7 j (by omega) q2 (by omega) (by omega) (by omega))
  have hLs : ∀ j : Nat, j < n → pLate s' j = pLate s1 j := fun j hj => pLate_ag (g7 _ (by omega) (by omega) (by omega) (by omega) (by omega)) (g7 _ (by omega) (by omega) (by omega) (by omega) (by omega))
  have hold : pLate u.1 i = -1 := by
    obtain ⟨-, -, q3⟩ := hin.1 i hi
    unfold pLate
    rcases q3 with ⟨-, q4⟩ | ⟨q3, -⟩ | q3 | q3
    · rw [q4]
      split
      · rfl
      · rfl
    · rw [hw] at q3; exact absurd q3 (by decide)
    · rw [hw] at q3; exact absurd q3 (by decide)
    · rw [hw] at q3; exact absurd q3 (by decide)
  have hgr : pGr s' n = if pGr u.1 n < pLate s1 i then pLate s1 i else pGr u.1 n := by
    rw [← hLs i hi]
    exact gr_up hi hold (fun j hj hji => by
      rw [hLs j hj]
      exact pLate_ag (a1 _ (by omega) (by omega)) (a1 _ (by omega) (by omega)))
  refine ⟨(e1, h.2.1, l', u.1 0, h.2.2.2.2.1, h.2.2.2.2.2.1, (if h.2.2.2.2.2.2.1 < pLate s1 i then pLate s1 i else h.2.2.2.2.2.2.1), h.2.2.2.2.2.2.2.1, 0, nI i, u.1 0 + pL u.1 i), s', ?_, ?_, ⟨hE', FR_ag r2 (fun j q1 q2 => g7' j (by omega) (by omega) (by omega) (by omega) (by omega) (by omega) (by omega)), ?_, ?_, ?_, ?_, ?_, ?_⟩, g3, pIn_beg hn hm hin hair hsec.1 hsec.2 hi hw b1 (b2.trans hsec.1) g4 g5 ?_ g7', g4, (g7' 0 (by omega) (by omega) (by omega) (by omega) (by omega) (by omega) (by omega)), (g7' 1 (by omega) (by omega) (by omega) (by omega) (by omega) (by omega) (by omega))⟩
  rotate_left
  rotate_left
  · exact (g7' 0 (by omega) (by omega) (by omega) (by omega) (by omega) (by omega) (by omega)).symm
  · exact r4.trans (g7' 1 (by omega) (by omega) (by omega) (by omega) (by omega) (by omega) (by omega)).symm
  · exact r5.trans (g7' 5 (by omega) (by omega) (by omega) (by omega) (by omega) (by omega) (by omega)).symm
  · show (if h.2.2.2.2.2.2.1 < pLate s1 i then pLate s1 i else h.2.2.2.2.2.2.1) = _
    rw [hgr, r6]
  · exact r7.trans (g7' 6 (by omega) (by omega) (by omega) (by omega) (by omega) (by omega) (by omega)).symm
  · exact Or.inr ⟨0, by omega, rfl, g4, g5.symm, (g6.trans (congrArg (· + pL u.1 i) a0)).symm⟩
  · rw [g6, ← hsec.1]
    show s1 0 + _ = _
    rw [a0]
  · unfold f_X2_beginElement
    rw [hhas]
    simp only [Option.bind_some]
    rw [if_neg (show ¬ zb true = 0 by decide), if_pos (zin_n (by omega) (by omega)), if_pos (zin_n (by omega) (by omega)), cl_n (by omega), r3, ← he1, hlate]
    simp only [Option.bind_some]
    rw [if_pos (zin_n (by omega) (by omega)), hlen]
    have g1' : f_X2_putOnAir (e1, h.2.1, h.2.2.1, h.2.2.2.1, h.2.2.2.2.1, h.2.2.2.2.2.1, (if h.2.2.2.2.2.2.1 < pLate s1 i then pLate s1 i else h.2.2.2.2.2.2.1), h.2.2.2.2.2.2.2.1, h.2.2.2.2.2.2.2.2.1, h.2.2.2.2.2.2.2.2.2.1, h.2.2.2.2.2.2.2.2.2.2) 0 (nI i) (s1 0 + pL u.1 i) = _ := g1
    rw [a0, r3] at g1'
    rw [g1']
    simp only [Option.bind_some, a0]
    try rfl
  · unfold f_X7_beginsElement
    have e3 : (10 + (5 * nI i)) + 3 = nI (10 + 5 * i + 3) := x7i (w := 3)
    have e4 : (10 + (5 * nI i)) + 4 = nI (10 + 5 * i + 4) := x7i (w := 4)
    rw [e3, e4, if_pos (zin_n (by omega) (by omega)), if_pos (zin_n (by omega) (by omega)), cl_n (by omega), cl_n (by omega), pk_un (show 0 ≠ 10 + 5 * i + 3 by omega), ← hs1]
    have q1 := x7of0 (u := (s1, u.2)) (i := i) (by omega)
    have q1' : f_X7_of (s1, u.2.1, u.2.2.1, u.2.2.2.1, u.2.2.2.2.1, u.2.2.2.2.2.1, u.2.2.2.2.2.2.1, u.2.2.2.2.2.2.2.1, u.2.2.2.2.2.2.2.2.1, u.2.2.2.2.2.2.2.2.2.1, u.2.2.2.2.2.2.2.2.2.2) (nI i) 0 = some (pL s1 i) := q1
    rw [q1']
    simp only [Option.bind_some]
    have q2 : pL s1 i = pL u.1 i := a1 _ (by omega) (by omega)
    rw [q2]
    have g2' : f_X7_goesOnAir (s1, u.2.1, u.2.2.1, u.2.2.2.1, u.2.2.2.2.1, u.2.2.2.2.2.1, u.2.2.2.2.2.2.1, u.2.2.2.2.2.2.2.1, u.2.2.2.2.2.2.2.2.1, u.2.2.2.2.2.2.2.2.2.1, u.2.2.2.2.2.2.2.2.2.2) 1 (nI i) (pL u.1 i) = some (s', u.2) := g2
    rw [g2']
    rfl
