/-! The pure part: fillGap and its like. -/
/-- what the reference does with a gap -/
def r7gap (u : MV) (t : Int32) : Option MV :=
  (f_X7_chosen u (t - (u.1 0))).bind (fun u15 =>
      if u15 = 0 then
        (f_X7_goesOnAir u 3 (-1) (t - (u.1 0))).bind (fun u19 =>
        some u19)
      else
        (f_X7_lowestOf u15).bind (fun u17 =>
        (f_X7_beginsFiller u u17).bind (fun u18 =>
        some u18)))
theorem gap2 {E : Prop} {h : HV} {u : MV} {n m k sec t : Nat} (h0 : HR0 h u.1 n m) (hl : LB E h.2.2.1 u.1 k) (hin : pIn u.1 n m k) (hair : u.1 2 = 0) (hsec : u.1 0 = nI sec) (hsec2 : sec < 2 ^ 31) (hst : sec < t) (ht : t ≤ 3600) (hg : t = 3600 ∨ ∃ i : Nat, i < n ∧ pT u.1 i = nI t) :
    ∃ (h' : HV) (s' : FF), f_X2_fillGap h (nI t) = some h' ∧ r7gap u (nI t) = some (s', u.2) ∧ HR0 h' s' n m ∧ LB E h'.2.2.1 s' (k + 1) ∧ pIn s' n m (k + 1) ∧ s' 2 ≠ 0 ∧ s' 0 = u.1 0 ∧ s' 1 = u.1 1 := by
  have h0' := h0
  obtain ⟨r1, r2, r3, r4, r5, r6, r7, r8⟩ := h0
  have hm := r2.1
  have hk := pIn_room r1.1 hm hin hair hsec hsec2 hst ht hg
  obtain ⟨B, w, c1, c2, c3, c4⟩ := choose2 r2 (nI t - u.1 0)
  obtain ⟨hh, hhe⟩ : ∃ hh : HV, hh = (h.1, (h.2.1.1, h.2.1.2.1, h.2.1.2.2.1, h.2.1.2.2.2.1, w), h.2.2) := ⟨_, rfl⟩
  have hF : FR (h.2.1.1, h.2.1.2.1, h.2.1.2.2.1, h.2.1.2.2.2.1, w) u.1 m := r2
  have hh0 : HR0 hh u.1 n m := by rw [hhe]; exact ⟨r1, hF, r3, r4, r5, r6, r7, r8⟩
  have hhl : LB E hh.2.2.1 u.1 k := by rw [hhe]; exact hl
  by_cases hB : B = 0
  · subst hB
    obtain ⟨h', s', g1, g2, g3, g4, g5, g6, g7, g8⟩ := sil2 hh0 hhl hin hair hsec hsec2 hst ht hg
    refine ⟨h', s', ?_, ?_, g3, g4, g5, g6, g7, g8⟩
    · unfold f_X2_fillGap
      rw [r3, c1]
      simp only [Option.bind_some]
      rw [low_0]
      simp only [Option.bind_some]
      rw [if_pos (show nI 0 = 0 from rfl)]
      have g1' := g1
      rw [hhe] at g1'
      rw [← r3]
      have g1'' : f_X2_putOnAir (h.1, (h.2.1.1, h.2.1.2.1, h.2.1.2.2.1, h.2.1.2.2.2.1, w), h.2.2.1, h.2.2.2.1, h.2.2.2.2.1, h.2.2.2.2.2.1, h.2.2.2.2.2.2.1, h.2.2.2.2.2.2.2.1, h.2.2.2.2.2.2.2.2.1, h.2.2.2.2.2.2.2.2.2.1, h.2.2.2.2.2.2.2.2.2.2) 2 (-1) (nI t) = some h' := g1'
      rw [g1'']
      rfl
    · unfold r7gap
      rw [c2]
      simp only [Option.bind_some]
      rw [if_pos (show nI 0 = 0 from rfl), g2]
      rfl
  · obtain ⟨q1, q2⟩ := low_b B c4 hB
    have q3 := tz_j B c4 hB
    have q4 := low7 B c4 hB
    generalize tz 10 B = i at *
    obtain ⟨hi, hw⟩ := pWm_b u.1 m i (c3 i q1)
    have hne : ¬ nI B = 0 := (show ¬ nI B = nI 0 from by rw [nI_eq (by omega) (by omega)]; exact hB)
    obtain ⟨h', s', g1, g2, g3, g4, g5, g6, g7, g8⟩ := fil2 hh0 hhl hin hair hsec hsec2 hk hi hw
    refine ⟨h', s', ?_, ?_, g3, g4, g5, g6, g7, g8⟩
    · have hF2 : f_X1_has (h.2.1.1, h.2.1.2.1, h.2.1.2.2.1, h.2.1.2.2.2.1, w) (nI i) = some true := hasF hF hi
      unfold f_X2_fillGap
      rw [r3, c1]
      simp only [Option.bind_some]
      rw [q3]
      simp only [Option.bind_some]
      rw [if_neg hne, hF2]
      simp only [Option.bind_some]
      rw [if_neg (show ¬ zb true = 0 by decide), if_pos (zin_n (by omega) (by omega)), if_pos (zin_n (by omega) (by omega)), if_pos (zin_n (by omega) (by omega)), cl_n (by omega)]
      have g1' := g1
      rw [hhe] at g1'
      rw [← r3]
      have g1'' : f_X2_putOnAir (h.1, (h.2.1.1, h.2.1.2.1, upd h.2.1.2.2.1 i 1, upd h.2.1.2.2.2.1 i h.2.2.2.1, w), h.2.2.1, h.2.2.2.1, h.2.2.2.2.1, h.2.2.2.2.2.1, h.2.2.2.2.2.2.1, h.2.2.2.2.2.2.2.1, h.2.2.2.2.2.2.2.2.1, h.2.2.2.2.2.2.2.2.2.1, h.2.2.2.2.2.2.2.2.2.2) 1 (nI i) (h.2.2.2.1 + h.2.1.2.1 i) = some h' := g1'
      rw [g1'']
      rfl
    · unfold r7gap
      rw [c2]
      simp only [Option.bind_some]
      rw [if_neg hne, q4]
      simp only [Option.bind_some]
      rw [g2]
      rfl
