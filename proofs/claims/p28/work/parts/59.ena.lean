/-! The pure part: what is on the air ends. -/
theorem ena2 {h : HV} {u : MV} {n m : Nat} (h0 : HR0 h u.1 n m) (hair : u.1 2 ≠ 0) (hE : u.1 2 = 1 → ∃ a : Nat, a < n ∧ u.1 3 = nI a) (hF : u.1 2 = 2 → ∃ a : Nat, a < m ∧ u.1 3 = nI a) :
    ∃ (h' : HV) (s' : FF), f_X2_endAir h = some h' ∧ f_X7_endsOnAir u = some (s', u.2) ∧ HR0 h' s' n m ∧ h'.2.2.1 = h.2.2.1 ∧ s' 2 = 0 ∧ (∀ j : Nat, j ≠ 2 → j ≠ 3 → j ≠ 4 → (∀ a : Nat, a < n → j ≠ 10 + 5 * a + 3) → (∀ a : Nat, a < m → j ≠ 70 + 3 * a + 1) → s' j = u.1 j) ∧ (∀ j : Nat, j < n → pS s' j = pS u.1 j ∨ pS s' j = 2) ∧ (∀ j : Nat, j < m → pfS s' j = pfS u.1 j ∨ pfS s' j = 2) ∧ (∀ j : Nat, j < n → u.1 2 = 1 → u.1 3 = nI j → pS s' j = 2) := by
  obtain ⟨r1, r2, r3, r4, r5, r6, r7, r8⟩ := h0
  have hn := r1.1
  have hm := r2.1
  rcases r8 with ⟨-, r8⟩ | ⟨a, a1, a2, a3, a4, a5⟩
  · exact absurd r8 hair
  rcases (by omega : a = 0 ∨ a = 1 ∨ a = 2) with rfl | rfl | rfl
  · have a3' : u.1 2 = 1 := a3
    obtain ⟨i, hi, h3⟩ := hE a3'
    obtain ⟨s', hs'⟩ : ∃ s' : FF, s' = upd (upd (upd (upd u.1 (10 + 5 * i + 3) 2) 2 0) 3 0) 4 0 := ⟨_, rfl⟩
    have hag : ∀ j : Nat, j ≠ 2 → j ≠ 3 → j ≠ 4 → j ≠ 10 + 5 * i + 3 → s' j = u.1 j := fun j q1 q2 q3 q4 => by
      rw [hs', pk_un q3, pk_un q2, pk_un q1, pk_un q4]
    have hs2 : s' 2 = 0 := by rw [hs', pk_un (by omega), pk_un (by omega), pk_us]
    have hsi : pS s' i = 2 := by unfold pS; rw [hs', pk_un (by omega), pk_un (by omega), pk_un (by omega), pk_us]
    refine ⟨((h.1.1, h.1.2.1, h.1.2.2.1, h.1.2.2.2.1, upd h.1.2.2.2.2.1 i 2, h.1.2.2.2.2.2), h.2.1, h.2.2.1, h.2.2.2.1, h.2.2.2.2.1, h.2.2.2.2.2.1, h.2.2.2.2.2.2.1, h.2.2.2.2.2.2.2.1, -1, -1, 0), s', ?_, ?_, ⟨⟨hn, r1.2.1, by rw [hag 7 (by omega) (by omega) (by omega) (by omega)]; exact r1.2.2.1, fun j hj => ?_⟩, FR_ag r2 (fun j q1 q2 => hag j (by omega) (by omega) (by omega) (by omega)), ?_, ?_, ?_, ?_, ?_, Or.inl ⟨rfl, hs2⟩⟩, rfl, hs2, fun j q1 q2 q3 q4 q5 => hag j q1 q2 q3 (q4 i hi), fun j hj => ?_, fun j hj => Or.inl (hag _ (by omega) (by omega) (by omega) (by omega)), fun j hj _ q => ?_⟩
    · unfold f_X2_endAir
      rw [a2, if_pos (show nI 0 = (0 : Int32) from rfl), a4, h3, hasN r1 hi]
      simp only [Option.bind_some]
      rw [if_neg (show ¬ zb true = 0 by decide), if_pos (zin_n (by omega) (by omega)), if_neg (show ¬ nI 0 = (1 : Int32) by decide), cl_n (by omega)]
      rfl
    · unfold f_X7_endsOnAir
      have e3 : (10 + (5 * nI i)) + 3 = nI (10 + 5 * i + 3) := x7i (w := 3)
      rw [if_pos a3', h3, e3, if_pos (zin_n (by omega) (by omega)), cl_n (by omega), if_neg (show ¬ upd u.1 (10 + 5 * i + 3) 2 2 = 2 by rw [pk_un (by omega), a3']; decide), hs']
    · obtain ⟨e1, e2, e3, e4, e5⟩ := r1.2.2.2 j hj
      have q1 : pL s' j = pL u.1 j := hag _ (by omega) (by omega) (by omega) (by omega)
      have q2 : pT s' j = pT u.1 j := hag _ (by omega) (by omega) (by omega) (by omega)
      have q3 : pK s' j = pK u.1 j := hag _ (by omega) (by omega) (by omega) (by omega)
      have q5 : pB s' j = pB u.1 j := hag _ (by omega) (by omega) (by omega) (by omega)
      rw [q1, q2, q3, q5]
      refine ⟨e1, e2, e3, ?_, e5⟩
      show upd h.1.2.2.2.2.1 i 2 j = _
      by_cases hji : j = i
      · subst hji; rw [pk_us, hsi]
      · rw [pk_un hji]
        exact e4.trans (hag _ (by omega) (by omega) (by omega) (by omega)).symm
    · exact r3.trans (hag 0 (by omega) (by omega) (by omega) (by omega)).symm
    · exact r4.trans (hag 1 (by omega) (by omega) (by omega) (by omega)).symm
    · exact r5.trans (hag 5 (by omega) (by omega) (by omega) (by omega)).symm
    · rw [pGr_cong (s' := s') (s := u.1) (fun j hj => pLate_ag (hag _ (by omega) (by omega) (by omega) (by omega)) (hag _ (by omega) (by omega) (by omega) (by omega)))]; exact r6
    · exact r7.trans (hag 6 (by omega) (by omega) (by omega) (by omega)).symm
    · by_cases hji : j = i
      · subst hji; exact Or.inr hsi
      · exact Or.inl (hag _ (by omega) (by omega) (by omega) (by omega))
    · rw [h3, nI_eq (by omega) (by omega)] at q
      subst q
      exact hsi
  · have a3' : u.1 2 = 2 := a3
    obtain ⟨i, hi, h3⟩ := hF a3'
    obtain ⟨s', hs'⟩ : ∃ s' : FF, s' = upd (upd (upd (upd u.1 (70 + 3 * i + 1) 2) 2 0) 3 0) 4 0 := ⟨_, rfl⟩
    have hag : ∀ j : Nat, j ≠ 2 → j ≠ 3 → j ≠ 4 → j ≠ 70 + 3 * i + 1 → s' j = u.1 j := fun j q1 q2 q3 q4 => by
      rw [hs', pk_un q3, pk_un q2, pk_un q1, pk_un q4]
    have hs2 : s' 2 = 0 := by rw [hs', pk_un (by omega), pk_un (by omega), pk_us]
    have hsi : pfS s' i = 2 := by unfold pfS; rw [hs', pk_un (by omega), pk_un (by omega), pk_un (by omega), pk_us]
    refine ⟨(h.1, (h.2.1.1, h.2.1.2.1, upd h.2.1.2.2.1 i 2, h.2.1.2.2.2.1, h.2.1.2.2.2.2), h.2.2.1, h.2.2.2.1, h.2.2.2.2.1, h.2.2.2.2.2.1, h.2.2.2.2.2.2.1, h.2.2.2.2.2.2.2.1, -1, -1, 0), s', ?_, ?_, ⟨ER_ag r1 (fun j q1 q2 q3 => hag j (by omega) (by omega) (by omega) (by omega)), ⟨hm, r2.2.1, by rw [hag 8 (by omega) (by omega) (by omega) (by omega)]; exact r2.2.2.1, fun j hj => ?_⟩, ?_, ?_, ?_, ?_, ?_, Or.inl ⟨rfl, hs2⟩⟩, rfl, hs2, fun j q1 q2 q3 q4 q5 => hag j q1 q2 q3 (q5 i hi), fun j hj => Or.inl (hag _ (by omega) (by omega) (by omega) (by omega)), fun j hj => ?_, fun j hj q _ => by rw [a3'] at q; exact absurd q (by decide)⟩
    · unfold f_X2_endAir
      rw [a2, if_neg (show ¬ nI 1 = (0 : Int32) by decide), if_pos (show nI 1 = (1 : Int32) from rfl), a4, h3, hasF r2 hi]
      simp only [Option.bind_some]
      rw [if_neg (show ¬ zb true = 0 by decide), if_pos (zin_n (by omega) (by omega)), cl_n (by omega)]
      rfl
    · unfold f_X7_endsOnAir
      have e3 : (70 + (3 * nI i)) + 1 = nI (70 + 3 * i + 1) := x7j (w := 1)
      rw [if_neg (show ¬ u.1 2 = 1 by rw [a3']; decide), if_pos a3', h3, e3, if_pos (zin_n (by omega) (by omega)), cl_n (by omega), hs']
    · obtain ⟨e1, e2, e3⟩ := r2.2.2.2 j hj
      have q1 : pfL s' j = pfL u.1 j := hag _ (by omega) (by omega) (by omega) (by omega)
      have q3 : pfB s' j = pfB u.1 j := hag _ (by omega) (by omega) (by omega) (by omega)
      rw [q1, q3]
      refine ⟨e1, ?_, e3⟩
      show upd h.2.1.2.2.1 i 2 j = _
      by_cases hji : j = i
      · subst hji; rw [pk_us, hsi]
      · rw [pk_un hji]
        exact e2.trans (hag _ (by omega) (by omega) (by omega) (by omega)).symm
    · exact r3.trans (hag 0 (by omega) (by omega) (by omega) (by omega)).symm
    · exact r4.trans (hag 1 (by omega) (by omega) (by omega) (by omega)).symm
    · exact r5.trans (hag 5 (by omega) (by omega) (by omega) (by omega)).symm
    · rw [pGr_cong (s' := s') (s := u.1) (fun j hj => pLate_ag (hag _ (by omega) (by omega) (by omega) (by omega)) (hag _ (by omega) (by omega) (by omega) (by omega)))]; exact r6
    · exact r7.trans (hag 6 (by omega) (by omega) (by omega) (by omega)).symm
    · by_cases hji : j = i
      · subst hji; exact Or.inr hsi
      · exact Or.inl (hag _ (by omega) (by omega) (by omega) (by omega))
  · have a3' : u.1 2 = 3 := a3
    obtain ⟨s', hs'⟩ : ∃ s' : FF, s' = upd (upd (upd u.1 2 0) 3 0) 4 0 := ⟨_, rfl⟩
    have hag : ∀ j : Nat, j ≠ 2 → j ≠ 3 → j ≠ 4 → s' j = u.1 j := fun j q1 q2 q3 => by
      rw [hs', pk_un q3, pk_un q2, pk_un q1]
    have hs2 : s' 2 = 0 := by rw [hs', pk_un (by omega), pk_un (by omega), pk_us]
    refine ⟨(h.1, h.2.1, h.2.2.1, h.2.2.2.1, h.2.2.2.2.1, h.2.2.2.2.2.1, h.2.2.2.2.2.2.1, h.2.2.2.2.2.2.2.1, -1, -1, 0), s', ?_, ?_, ⟨ER_ag r1 (fun j q1 q2 q3 => hag j (by omega) (by omega) (by omega)), FR_ag r2 (fun j q1 q2 => hag j (by omega) (by omega) (by omega)), ?_, ?_, ?_, ?_, ?_, Or.inl ⟨rfl, hs2⟩⟩, rfl, hs2, fun j q1 q2 q3 q4 q5 => hag j q1 q2 q3, fun j hj => Or.inl (hag _ (by omega) (by omega) (by omega)), fun j hj => Or.inl (hag _ (by omega) (by omega) (by omega)), fun j hj q _ => by rw [a3'] at q; exact absurd q (by decide)⟩
    · unfold f_X2_endAir
      rw [a2, if_neg (show ¬ nI 2 = (0 : Int32) by decide), if_neg (show ¬ nI 2 = (1 : Int32) by decide)]
      rfl
    · unfold f_X7_endsOnAir
      rw [if_neg (show ¬ u.1 2 = 1 by rw [a3']; decide), if_neg (show ¬ u.1 2 = 2 by rw [a3']; decide), hs']
    · exact r3.trans (hag 0 (by omega) (by omega) (by omega)).symm
    · exact r4.trans (hag 1 (by omega) (by omega) (by omega)).symm
    · exact r5.trans (hag 5 (by omega) (by omega) (by omega)).symm
    · rw [pGr_cong (s' := s') (s := u.1) (fun j hj => pLate_ag (hag _ (by omega) (by omega) (by omega)) (hag _ (by omega) (by omega) (by omega)))]; exact r6
    · exact r7.trans (hag 6 (by omega) (by omega) (by omega)).symm
/-- the second goes on, below the end of what is on the air -/
theorem pIn_adv {s s' : FF} {n m k sec en B : Nat} (hn : n ≤ 12) (hm : m ≤ 10) (h : pIn s n m k) (hair : s 2 ≠ 0) (hsec : s 0 = nI sec) (hsec2 : sec < 2 ^ 31) (hen : s 4 = nI en) (hen2 : en < 2 ^ 31) (hB : sec ≤ B) (hB2 : B < en) (e0 : s' 0 = nI B) (hs : ∀ j : Nat, j < 100 → j ≠ 9 → j ≠ 0 → j ≠ 5 → s' j = s j) : pIn s' n m k := by
  have hL : ∀ j : Nat, j < n → pL s' j = pL s j := fun j hj => hs _ (by omega) (by omega) (by omega) (by omega)
  have hT : ∀ j : Nat, j < n → pT s' j = pT s j := fun j hj => hs _ (by omega) (by omega) (by omega) (by omega)
  have hBB : ∀ j : Nat, j < n → pB s' j = pB s j := fun j hj => hs _ (by omega) (by omega) (by omega) (by omega)
  have hS : ∀ j : Nat, j < n → pS s' j = pS s j := fun j hj => hs _ (by omega) (by omega) (by omega) (by omega)
  have hfL : ∀ j : Nat, j < m → pfL s' j = pfL s j := fun j hj => hs _ (by omega) (by omega) (by omega) (by omega)
  have hfS : ∀ j : Nat, j < m → pfS s' j = pfS s j := fun j hj => hs _ (by omega) (by omega) (by omega) (by omega)
  have hF : pCF s' m = pCF s m := pC_cong m (fun j hj => by rw [hfS j hj])
  have hE : pCE s' n = pCE s n := pC_cong n (fun j hj => by rw [hS j hj])
  have hTT : ∀ B : Nat, pCT s' n B = pCT s n B := fun B => by
    unfold pCT
    rw [pC_cong n (fun j hj => by rw [hT j hj])]
  have aE : pCE s n ≤ n := pC_le _ n
  have aF : pCF s m ≤ m := pC_le _ m
  obtain ⟨a1, a2, a3, sec', a4, a5, a6⟩ := h
  obtain rfl : sec' = sec := by
    rw [hsec, nI_eq hsec2 (by omega)] at a4
    exact a4.symm
  have hup : en < 100000 → pCT s n sec' ≤ pCT s n B := fun q => pCT_mono hB (by omega)
  have h2 : s' 2 = s 2 := hs 2 (by omega) (by omega) (by omega) (by omega)
  have h3 : s' 3 = s 3 := hs 3 (by omega) (by omega) (by omega) (by omega)
  have h4 : s' 4 = s 4 := hs 4 (by omega) (by omega) (by omega) (by omega)
  rcases a6 with ⟨b1, b2⟩ | ⟨en', b1, b2, b3, b4⟩
  · exact absurd b1 hair
  obtain rfl : en' = en := by
    rw [hen, nI_eq hen2 (by omega)] at b1
    exact b1.symm
  have hup' := hup (by omega)
  refine ⟨fun j hj => ?_, fun j hj => by rw [hfL j hj]; exact a2 j hj, by rw [hs 1 (by omega) (by omega) (by omega) (by omega)]; exact a3, B, e0, by rw [hE, hF]; omega, Or.inr ⟨en', by rw [h4]; exact hen, hB2, by rw [hE, hF]; omega, ?_⟩⟩
  · obtain ⟨c1, c2, c3⟩ := a1 j hj
    rw [hL j hj, hT j hj, hS j hj, hBB j hj, hE, hF, h2, h3]
    exact ⟨c1, c2, c3⟩
  · rw [h2, h3, hE, hF, hTT, hTT]
    rcases b4 with ⟨b4, b5, b6⟩ | ⟨b4, b5, b6⟩ | ⟨b4, b5, b6⟩
    · exact Or.inl ⟨b4, b5, by omega⟩
    · exact Or.inr (Or.inl ⟨b4, b5, by omega⟩)
    · exact Or.inr (Or.inr ⟨b4, b5, by omega⟩)
