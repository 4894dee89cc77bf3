/-! The pure part: time passes, up to the end of what is on the air. -/
/-- what the reference does with d seconds, l being left -/
def r7end (w : MV) (l : Int32) (s1 : FF) : Option ((Int32 × MV) ⊕ (Int32 × MV)) :=
  if (s1 0) = (s1 4) then
    (f_X7_endsOnAir (s1, w.2.1, w.2.2.1, w.2.2.2.1, w.2.2.2.2.1, w.2.2.2.2.2.1, w.2.2.2.2.2.2.1, w.2.2.2.2.2.2.2.1, w.2.2.2.2.2.2.2.2.1, w.2.2.2.2.2.2.2.2.2.1, w.2.2.2.2.2.2.2.2.2.2)).bind (fun u23 =>
    some (.inl (l, u23)))
  else
    some (.inl (l, (s1, w.2.1, w.2.2.1, w.2.2.2.1, w.2.2.2.2.1, w.2.2.2.2.2.1, w.2.2.2.2.2.2.1, w.2.2.2.2.2.2.2.1, w.2.2.2.2.2.2.2.2.1, w.2.2.2.2.2.2.2.2.2.1, w.2.2.2.2.2.2.2.2.2.2)))
def r7go (w : MV) (l d : Int32) : Option ((Int32 × MV) ⊕ (Int32 × MV)) :=
  if ((upd w.1 0 ((w.1 0) + d)) 2) = 3 then
    r7end w (l - d) (upd (upd w.1 0 ((w.1 0) + d)) 5 (((upd w.1 0 ((w.1 0) + d)) 5) + d))
  else
    r7end w (l - d) (upd (upd w.1 0 ((w.1 0) + d)) 5 (((upd w.1 0 ((w.1 0) + d)) 5) + 0))
def r7pass (w : MV) (l : Int32) : Option ((Int32 × MV) ⊕ (Int32 × MV)) :=
  if l ≤ ((w.1 4) - (w.1 0)) then r7go w l l else r7go w l ((w.1 4) - (w.1 0))
theorem r7step (v : MV) (i1 : Int32) (x : Int32 × MV) : s_X7_goesOn_2 v i1 x =
    if x.1 ≤ 0 then some (.inr (x.1, x.2))
    else if (x.2.1 1) = 0 then
      if (x.2.1 2) = 0 then (f_X7_finds x.2).bind (fun u => if (u.1 1) = 0 then r7pass u x.1 else some (.inl (x.1, u)))
      else if (x.2.1 1) = 0 then r7pass x.2 x.1 else some (.inl (x.1, x.2))
    else some (.inr (x.1, x.2)) := rfl
theorem go2 {E : Prop} {h : HV} {u : MV} {n m k sec en dN : Nat} {L l : Int32} (h0 : HR0 h u.1 n m) (hl : LB E h.2.2.1 u.1 k) (hin : pIn u.1 n m k) (hair : u.1 2 ≠ 0) (hsec : u.1 0 = nI sec) (hsec2 : sec < 2 ^ 31) (hen : u.1 4 = nI en) (hen2 : en < 2 ^ 31) (hd : sec + dN ≤ en)
    (hL : (if L < h.2.2.2.2.2.2.2.2.2.2 then L else h.2.2.2.2.2.2.2.2.2.2) = nI (sec + dN)) :
    ∃ (h' : HV) (s' : FF), f_X2_passAir h L = some h' ∧ r7go u l (nI dN) = some (.inl (l - nI dN, (s', u.2))) ∧ HR0 h' s' n m ∧ LB E h'.2.2.1 s' k ∧ pIn s' n m k ∧ s' 0 = nI (sec + dN) ∧ s' 1 = u.1 1 ∧ (sec + dN = en → s' 2 = 0) := by
  obtain ⟨r1, r2, r3, r4, r5, r6, r7, r8⟩ := h0
  have hn := r1.1
  have hm := r2.1
  rcases r8 with ⟨-, r8⟩ | ⟨a, a1, a2, a3, a4, a5⟩
  · exact absurd r8 hair
  have hend : h.2.2.2.2.2.2.2.2.2.2 = nI en := a5.trans hen
  obtain ⟨dl, hdl⟩ : ∃ dl : Int32, dl = (if a = 2 then nI dN else 0) := ⟨_, rfl⟩
  obtain ⟨s1, hs1⟩ : ∃ s1 : FF, s1 = upd (upd u.1 0 (nI (sec + dN))) 5 (u.1 5 + dl) := ⟨_, rfl⟩
  have z0 : s1 0 = nI (sec + dN) := by rw [hs1, pk_un (by omega), pk_us]
  have z5 : s1 5 = u.1 5 + dl := by rw [hs1, pk_us]
  have zz : ∀ j : Nat, j ≠ 0 → j ≠ 5 → s1 j = u.1 j := fun j q1 q2 => by rw [hs1, pk_un q2, pk_un q1]
  obtain ⟨h1, hh1⟩ : ∃ h1 : HV, h1 = (h.1, h.2.1, h.2.2.1, nI (sec + dN), h.2.2.2.2.1, h.2.2.2.2.2.1 + dl, h.2.2.2.2.2.2) := ⟨_, rfl⟩
  have hcls : f_X2_passAir h L = if nI (sec + dN) < h.2.2.2.2.2.2.2.2.2.2 then some h1 else (f_X2_endAir h1).bind (fun w => some w) := by
    unfold f_X2_passAir
    rw [hL]
    by_cases ha : a = 2
    · subst ha
      rw [if_pos (show h.2.2.2.2.2.2.2.2.1 = 2 from a2), r3, hsec, pk_sub (by omega), show sec + dN - sec = dN by omega, hh1, hdl, if_pos rfl]
    · have ha2 : ¬ h.2.2.2.2.2.2.2.2.1 = 2 := by
        rw [a2]
        rcases (by omega : a = 0 ∨ a = 1) with rfl | rfl <;> decide
      rw [if_neg ha2, hh1, hdl, if_neg ha, Int32.add_zero]
  have href : r7go u l (nI dN) = r7end u (l - nI dN) s1 := by
    unfold r7go
    rw [hsec, nI_add, pk_un (show 2 ≠ 0 by omega), pk_un (show 5 ≠ 0 by omega)]
    by_cases ha : a = 2
    · subst ha
      rw [if_pos (show u.1 2 = 3 from a3), hs1, hdl, if_pos rfl]
    · have ha2 : ¬ u.1 2 = 3 := by
        rw [a3]
        rcases (by omega : a = 0 ∨ a = 1) with rfl | rfl <;> decide
      rw [if_neg ha2, hs1, hdl, if_neg ha]
  have h01 : HR0 h1 s1 n m := by
    rw [hh1]
    refine ⟨ER_ag r1 (fun j q1 q2 q3 => zz j (by omega) (by omega)), FR_ag r2 (fun j q1 q2 => zz j (by omega) (by omega)), z0.symm, r4.trans (zz 1 (by omega) (by omega)).symm, ?_, ?_, r7.trans (zz 6 (by omega) (by omega)).symm, Or.inr ⟨a, a1, a2, (zz 2 (by omega) (by omega)).trans a3, a4.trans (zz 3 (by omega) (by omega)).symm, a5.trans (zz 4 (by omega) (by omega)).symm⟩⟩
    · show h.2.2.2.2.2.1 + dl = s1 5
      rw [z5, r5]
    · rw [pGr_cong (s' := s1) (s := u.1) (fun j hj => pLate_ag (zz _ (by omega) (by omega)) (zz _ (by omega) (by omega)))]; exact r6
  have hl1 : LB E h1.2.2.1 s1 k := by
    rw [hh1]
    exact LB_ag hl (fun j hj => zz j (by omega) (by omega))
  have hs4 : s1 4 = nI en := (zz 4 (by omega) (by omega)).trans hen
  by_cases hlt : sec + dN < en
  · refine ⟨h1, s1, ?_, ?_, h01, hl1, pIn_adv hn hm hin hair hsec hsec2 hen hen2 (by omega) hlt z0 (fun j _ _ q1 q2 => zz j q1 q2), z0, zz 1 (by omega) (by omega), fun q => by omega⟩
    · rw [hcls, if_pos (by rw [hend, nI_ltI (by omega) (by omega)]; exact hlt)]
    · rw [href]
      unfold r7end
      rw [z0, hs4, if_neg (by rw [nI_eq (by omega) (by omega)]; omega)]
  · have hee : sec + dN = en := by omega
    have hrng : (u.1 2 = 1 → ∃ a : Nat, a < n ∧ u.1 3 = nI a) ∧ (u.1 2 = 2 → ∃ a : Nat, a < m ∧ u.1 3 = nI a) := by
      obtain ⟨-, -, -, sc, -, -, b4⟩ := hin
      rcases b4 with ⟨b4, -⟩ | ⟨e9, -, -, -, ⟨b4, b5, -⟩ | ⟨b4, b5, -⟩ | ⟨b4, -, -⟩⟩
      · exact absurd b4 hair
      · exact ⟨fun _ => b5, fun q => by rw [b4] at q; exact absurd q (by decide)⟩
      · exact ⟨fun q => by rw [b4] at q; exact absurd q (by decide), fun _ => b5⟩
      · exact ⟨fun q => by rw [b4] at q; exact absurd q (by decide), fun q => by rw [b4] at q; exact absurd q (by decide)⟩
    have y2 : s1 2 = u.1 2 := zz 2 (by omega) (by omega)
    have y3 : s1 3 = u.1 3 := zz 3 (by omega) (by omega)
    obtain ⟨h', s', g1, g2, g3, g4, g5, g6, g7, g8, g9⟩ := ena2 (u := (s1, u.2)) h01 (by show s1 2 ≠ 0; rw [y2]; exact hair) (by show s1 2 = 1 → ∃ a : Nat, a < n ∧ s1 3 = nI a; rw [y2, y3]; exact hrng.1) (by show s1 2 = 2 → ∃ a : Nat, a < m ∧ s1 3 = nI a; rw [y2, y3]; exact hrng.2)
    have g6' : ∀ j : Nat, j ≠ 2 → j ≠ 3 → j ≠ 4 → (∀ a : Nat, a < n → j ≠ 10 + 5 * a + 3) → (∀ a : Nat, a < m → j ≠ 70 + 3 * a + 1) → s' j = s1 j := g6
    have g7' : ∀ j : Nat, j < n → pS s' j = pS s1 j ∨ pS s' j = 2 := g7
    have g8' : ∀ j : Nat, j < m → pfS s' j = pfS s1 j ∨ pfS s' j = 2 := g8
    have k0 : s' 0 = nI (sec + dN) := (g6' 0 (by omega) (by omega) (by omega) (fun a ha => by omega) (fun a ha => by omega)).trans z0
    have k1 : s' 1 = u.1 1 := (g6' 1 (by omega) (by omega) (by omega) (fun a ha => by omega) (fun a ha => by omega)).trans (zz 1 (by omega) (by omega))
    have kL : ∀ j : Nat, j < n → pL s' j = pL u.1 j := fun j hj => (g6' _ (by omega) (by omega) (by omega) (fun a ha => by omega) (fun a ha => by omega)).trans (zz _ (by omega) (by omega))
    have kT : ∀ j : Nat, j < n → pT s' j = pT u.1 j := fun j hj => (g6' _ (by omega) (by omega) (by omega) (fun a ha => by omega) (fun a ha => by omega)).trans (zz _ (by omega) (by omega))
    have kB : ∀ j : Nat, j < n → pB s' j = pB u.1 j := fun j hj => (g6' _ (by omega) (by omega) (by omega) (fun a ha => by omega) (fun a ha => by omega)).trans (zz _ (by omega) (by omega))
    have kfL : ∀ j : Nat, j < m → pfL s' j = pfL u.1 j := fun j hj => (g6' _ (by omega) (by omega) (by omega) (fun a ha => by omega) (fun a ha => by omega)).trans (zz _ (by omega) (by omega))
    have kS : ∀ j : Nat, j < n → pS s' j = pS u.1 j ∨ pS s' j = 2 := fun j hj => (g7' j hj).imp (fun q => q.trans (zz _ (by omega) (by omega))) id
    have g9' : ∀ j : Nat, j < n → s1 2 = 1 → s1 3 = nI j → pS s' j = 2 := g9
    have kno : ∀ j : Nat, j < n → u.1 2 = 1 → u.1 3 = nI j → pS s' j = 2 := fun j hj q1 q2 => g9' j hj (y2.trans q1) (y3.trans q2)
    have kfS : ∀ j : Nat, j < m → pfS s' j = pfS u.1 j ∨ pfS s' j = 2 := fun j hj => (g8' j hj).imp (fun q => q.trans (zz _ (by omega) (by omega))) id
    refine ⟨h', s', ?_, ?_, g3, ?_, pIn_end hn hm hin hair kL kT kB kS kno kfL kfS (by rw [k0, hee, hen]) k1 g5, k0, k1, fun _ => g5⟩
    · rw [hcls, if_neg (by rw [hend, nI_ltI (by omega) (by omega)]; exact hlt), g1]
      rfl
    · rw [href]
      unfold r7end
      rw [z0, hs4, hee, if_pos rfl]
      have g2' : f_X7_endsOnAir (s1, u.2.1, u.2.2.1, u.2.2.2.1, u.2.2.2.2.1, u.2.2.2.2.2.1, u.2.2.2.2.2.2.1, u.2.2.2.2.2.2.2.1, u.2.2.2.2.2.2.2.2.1, u.2.2.2.2.2.2.2.2.2.1, u.2.2.2.2.2.2.2.2.2.2) = some (s', u.2) := g2
      rw [g2']
      rfl
    · rw [g4]
      exact LB_ag hl1 (fun j hj => g6' j (by omega) (by omega) (by omega) (fun a ha => by omega) (fun a ha => by omega))
/-- T: where time ends; far: no end below the hour's -/
def pLim (L : Int32) (T : Nat) : Prop := (L = nI T ∧ T ≤ 100000) ∨ (L = 1000000 ∧ 1000000 ≤ T ∧ T ≤ 200000000)
theorem pass2 {E : Prop} {h : HV} {u : MV} {n m k sec lN T : Nat} {L : Int32} (h0 : HR0 h u.1 n m) (hl : LB E h.2.2.1 u.1 k) (hin : pIn u.1 n m k) (hair : u.1 2 ≠ 0) (hsec : u.1 0 = nI sec) (hsec2 : sec < 2 ^ 31) (hT : sec + lN = T) (hL : pLim L T) :
    ∃ (h' : HV) (s' : FF) (sec' lN' : Nat), f_X2_passAir h L = some h' ∧ r7pass u (nI lN) = some (.inl (nI lN', (s', u.2))) ∧ HR0 h' s' n m ∧ LB E h'.2.2.1 s' k ∧ pIn s' n m k ∧ s' 0 = nI sec' ∧ sec' < 2 ^ 31 ∧ sec' + lN' = T ∧ s' 1 = u.1 1 ∧ (s' 2 = 0 ∨ lN' = 0) := by
  have hn := h0.1.1
  have hm := h0.2.1.1
  have aE : pCE u.1 n ≤ n := pC_le _ n
  have aF : pCF u.1 m ≤ m := pC_le _ m
  have hT9 : T ≤ 200000000 := by rcases hL with ⟨-, q⟩ | ⟨-, -, q⟩ <;> omega
  obtain ⟨en, hen, hen1, hen2⟩ : ∃ en : Nat, u.1 4 = nI en ∧ sec < en ∧ en ≤ 90000 := by
    obtain ⟨-, -, -, sc, b1, b2, b4⟩ := hin
    obtain rfl : sc = sec := by
      rw [hsec, nI_eq hsec2 (by omega)] at b1
      exact b1.symm
    rcases b4 with ⟨b4, -⟩ | ⟨en, c1, c2, c3, -⟩
    · exact absurd b4 hair
    · exact ⟨en, c1, c2, by omega⟩
  have hend : h.2.2.2.2.2.2.2.2.2.2 = nI en := by
    obtain ⟨-, -, -, -, -, -, -, r8⟩ := h0
    rcases r8 with ⟨-, r8⟩ | ⟨a, -, -, -, -, a5⟩
    · exact absurd r8 hair
    · exact a5.trans hen
  have hdif : u.1 4 - u.1 0 = nI (en - sec) := by rw [hen, hsec, pk_sub (by omega)]
  by_cases hA : T < en
  · have hL1 : L = nI T := by
      rcases hL with ⟨q, -⟩ | ⟨-, q, -⟩
      · exact q
      · omega
    obtain ⟨h', s', g1, g2, g3, g4, g5, g6, g7, g8⟩ := go2 (L := L) (l := nI lN) (dN := lN) h0 hl hin hair hsec hsec2 hen (by omega) (by omega) (by rw [hL1, hend, if_pos (by rw [nI_ltI (by omega) (by omega)]; exact hA), hT])
    refine ⟨h', s', T, 0, g1, ?_, g3, g4, g5, by rw [g6, hT], by omega, rfl, g7, Or.inr rfl⟩
    unfold r7pass
    rw [hdif, if_pos (by rw [nI_leI (by omega) (by omega)]; omega), g2, pk_sub (Nat.le_refl _), Nat.sub_self]
  · have hnl : ¬ L < h.2.2.2.2.2.2.2.2.2.2 := by
      rw [hend]
      rcases hL with ⟨q, -⟩ | ⟨q, -, -⟩
      · rw [q, nI_ltI (by omega) (by omega)]; exact hA
      · rw [q]
        show ¬ nI 1000000 < nI en
        rw [nI_ltI (by omega) (by omega)]; omega
    obtain ⟨h', s', g1, g2, g3, g4, g5, g6, g7, g8⟩ := go2 (L := L) (l := nI lN) (dN := en - sec) h0 hl hin hair hsec hsec2 hen (by omega) (by omega) (by rw [if_neg hnl, hend, show sec + (en - sec) = en by omega])
    refine ⟨h', s', en, lN - (en - sec), g1, ?_, g3, g4, g5, by rw [g6, show sec + (en - sec) = en by omega], by omega, by omega, g7, Or.inl (g8 (by omega))⟩
    unfold r7pass
    rw [hdif]
    by_cases hq : lN ≤ en - sec
    · obtain rfl : lN = en - sec := by omega
      rw [if_pos (Int32.le_refl _), g2, pk_sub (Nat.le_refl _)]
    · rw [if_neg (by rw [nI_leI (by omega) (by omega)]; exact hq), g2, pk_sub (by omega)]
