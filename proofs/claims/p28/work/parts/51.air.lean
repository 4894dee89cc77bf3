/-! The pure part: something goes on the air. -/
theorem air2 {E : Prop} {h : HV} {u : MV} {k : Nat} (hs0 : h.2.2.2.1 = u.1 0) (hl : LB E h.2.2.1 u.1 k) (hk : k < 35) (a : Nat) (p1 p2 : Int32) : ∃ (l' : LV) (s' : FF), f_X2_putOnAir h (nI a) p1 (u.1 0 + p2) = some (h.1, h.2.1, l', h.2.2.2.1, h.2.2.2.2.1, h.2.2.2.2.2.1, h.2.2.2.2.2.2.1, h.2.2.2.2.2.2.2.1, nI a, p1, u.1 0 + p2) ∧ f_X7_goesOnAir u (nI (a + 1)) p1 p2 = some (s', u.2) ∧ LB E l' s' (k + 1) ∧ s' 2 = nI (a + 1) ∧ s' 3 = p1 ∧ s' 4 = u.1 0 + p2 ∧ ∀ j : Nat, j < 100 → j ≠ 9 → j ≠ 2 → j ≠ 3 → j ≠ 4 → s' j = u.1 j := by
  have hl' : LB E h.2.2.1 (upd (upd (upd u.1 2 (nI (a + 1))) 3 p1) 4 (u.1 0 + p2)) k := LB_ag hl (fun j hj => by rw [pk_un (by omega), pk_un (by omega), pk_un (by omega)])
  obtain ⟨l', s', g1, g2, g3, g4⟩ := logsB (u := (upd (upd (upd u.1 2 (nI (a + 1))) 3 p1) 4 (u.1 0 + p2), u.2)) hl' hk (nI a) p1
  have z0 : upd (upd (upd u.1 2 (nI (a + 1))) 3 p1) 4 (u.1 0 + p2) 0 = u.1 0 := by rw [pk_un (by omega), pk_un (by omega), pk_un (by omega)]
  have z1 : upd (upd u.1 2 (nI (a + 1))) 3 p1 0 = u.1 0 := by rw [pk_un (by omega), pk_un (by omega)]
  have g1' : f_X3_add h.2.2.1 (upd (upd (upd u.1 2 (nI (a + 1))) 3 p1) 4 (u.1 0 + p2) 0) (nI a) p1 = some l' := g1
  have g4' : ∀ j : Nat, j < 100 → j ≠ 9 → s' j = upd (upd (upd u.1 2 (nI (a + 1))) 3 p1) 4 (u.1 0 + p2) j := g4
  rw [z0] at g1'
  have hm1 : nI (a + 1) - 1 = nI a := pk_sub (a := a + 1) (b := 1) (by omega)
  refine ⟨l', s', ?_, ?_, g3, ?_, ?_, ?_, fun j hj h9 h2 h3 h4 => ?_⟩
  · unfold f_X2_putOnAir
    rw [hs0, g1']
    rfl
  · unfold f_X7_goesOnAir
    rw [z1, hm1]
    have g2' : f_X7_logs (upd (upd (upd u.1 2 (nI (a + 1))) 3 p1) 4 (u.1 0 + p2), u.2.1, u.2.2.1, u.2.2.2.1, u.2.2.2.2.1, u.2.2.2.2.2.1, u.2.2.2.2.2.2.1, u.2.2.2.2.2.2.2.1, u.2.2.2.2.2.2.2.2.1, u.2.2.2.2.2.2.2.2.2.1, u.2.2.2.2.2.2.2.2.2.2) (nI a) p1 = some (s', u.2) := g2
    rw [g2']
    rfl
  · rw [g4' 2 (by omega) (by omega), pk_un (by omega), pk_un (by omega), pk_us]
  · rw [g4' 3 (by omega) (by omega), pk_un (by omega), pk_us]
  · rw [g4' 4 (by omega) (by omega), pk_us]
  · rw [g4' j hj h9, pk_un (by omega), pk_un (by omega), pk_un (by omega)]
/-- the greatest lateness, when one more has begun -/
theorem gr_up {s s' : FF} {n i : Nat} (hi : i < n) (h0 : pLate s i = -1) (hs : ∀ j : Nat, j < n → j ≠ i → pLate s' j = pLate s j) : pGr s' n = if pGr s n < pLate s' i then pLate s' i else pGr s n := by
  have key : ∀ k : Nat, k ≤ n → 0 ≤ (pGr s k).toInt ∧ (pGr s' k).toInt = if i < k ∧ (pGr s k).toInt < (pLate s' i).toInt then (pLate s' i).toInt else (pGr s k).toInt := by
    intro k
    induction k with
    | zero =>
      intro _
      have z : ∀ q : FF, pGr q 0 = 0 := fun _ => rfl
      have z0 : (0 : Int32).toInt = 0 := rfl
      rw [z, z, z0, if_neg (by omega)]
      exact ⟨Int.le_refl _, rfl⟩
    | succ k ih =>
      intro hk
      obtain ⟨i1, i2⟩ := ih (by omega)
      have e1 : pGr s (k + 1) = if pLate s k ≤ pGr s k then pGr s k else pLate s k := by
        unfold pGr
        rw [pF_last, Nat.zero_add]
      have e2 : pGr s' (k + 1) = if pLate s' k ≤ pGr s' k then pGr s' k else pLate s' k := by
        unfold pGr
        rw [pF_last, Nat.zero_add]
      rw [e1, e2]
      by_cases hki : k = i
      · subst hki
        have h1 : (-1 : Int32).toInt = -1 := rfl
        rw [h0, if_pos (by rw [Int32.le_iff_toInt_le]; omega)]
        rw [if_neg (by omega)] at i2
        refine ⟨i1, ?_⟩
        by_cases hc : pLate s' k ≤ pGr s' k
        · rw [if_pos hc]
          rw [Int32.le_iff_toInt_le] at hc
          rw [if_neg (by omega)]
          exact i2
        · rw [if_neg hc]
          rw [Int32.le_iff_toInt_le] at hc
          rw [if_pos (by omega)]
      · rw [hs k (by omega) hki]
        simp only [Int32.le_iff_toInt_le]
        by_cases hc : (pLate s k).toInt ≤ (pGr s k).toInt
        · rw [if_pos hc]
          refine ⟨i1, ?_⟩
          split at i2 <;> split <;> split <;> omega
        · rw [if_neg hc]
          refine ⟨by omega, ?_⟩
          split at i2 <;> split <;> split <;> omega
  obtain ⟨-, k2⟩ := key n (Nat.le_refl _)
  apply Int32.toInt_inj.mp
  rw [k2]
  simp only [Int32.lt_iff_toInt_lt]
  split <;> split <;> first | rfl | (exfalso; omega)
/-- an element that waited begins -/
theorem pIn_beg {s s' : FF} {n m k i sec : Nat} (hn : n ≤ 12) (hm : m ≤ 10) (h : pIn s n m k) (hair : s 2 = 0) (hsec : s 0 = nI sec) (hsec2 : sec < 2 ^ 31) (hi : i < n) (h0 : pS s i = 0) (h3 : pS s' i = 1) (hb : pB s' i = nI sec) (e2 : s' 2 = 1) (e3 : s' 3 = nI i) (e4 : s' 4 = nI sec + pL s i)
    (hs : ∀ j : Nat, j < 100 → j ≠ 9 → j ≠ 2 → j ≠ 3 → j ≠ 4 → j ≠ 10 + 5 * i + 3 → j ≠ 10 + 5 * i + 4 → s' j = s j) : pIn s' n m (k + 1) := by
  have hL : ∀ j : Nat, j < n → pL s' j = pL s j := fun j hj => hs _ (by omega) (by omega) (by omega) (by omega) (by omega) (by omega) (by omega)
  have hT : ∀ j : Nat, j < n → pT s' j = pT s j := fun j hj => hs _ (by omega) (by omega) (by omega) (by omega) (by omega) (by omega) (by omega)
  have hB : ∀ j : Nat, j < n → j ≠ i → pB s' j = pB s j := fun j hj hji => hs _ (by omega) (by omega) (by omega) (by omega) (by omega) (by omega) (by omega)
  have hS : ∀ j : Nat, j < n → j ≠ i → pS s' j = pS s j := fun j hj hji => hs _ (by omega) (by omega) (by omega) (by omega) (by omega) (by omega) (by omega)
  have hfL : ∀ j : Nat, j < m → pfL s' j = pfL s j := fun j hj => hs _ (by omega) (by omega) (by omega) (by omega) (by omega) (by omega) (by omega)
  have hfS : ∀ j : Nat, j < m → pfS s' j = pfS s j := fun j hj => hs _ (by omega) (by omega) (by omega) (by omega) (by omega) (by omega) (by omega)
  have hE : pCE s n + 1 ≤ pCE s' n := pC_one n (fun j hj hp => by
    by_cases hji : j = i
    · subst hji; exact absurd h0 (of_decide_eq_true hp)
    · rw [hS j hj hji]; exact hp) ⟨i, hi, decide_eq_false (fun q => q h0), decide_eq_true (by rw [h3]; decide)⟩
  have hF : pCF s' m = pCF s m := pC_cong m (fun j hj => by rw [hfS j hj])
  have hTT : ∀ B : Nat, pCT s' n B = pCT s n B := fun B => by
    unfold pCT
    rw [pC_cong n (fun j hj => by rw [hT j hj])]
  obtain ⟨a1, a2, a3, sec', a4, a5, a6⟩ := h
  have aE : pCE s n ≤ n := pC_le _ n
  have aF : pCF s m ≤ m := pC_le _ m
  obtain rfl : sec' = sec := by
    rw [hsec, nI_eq hsec2 (by omega)] at a4
    exact a4.symm
  obtain ⟨⟨l, l1, l2, l3⟩, -, -⟩ := a1 i hi
  refine ⟨fun j hj => ?_, fun j hj => by rw [hfL j hj]; exact a2 j hj, by rw [hs 1 (by omega) (by omega) (by omega) (by omega) (by omega) (by omega) (by omega)]; exact a3, sec', by rw [hs 0 (by omega) (by omega) (by omega) (by omega) (by omega) (by omega) (by omega)]; exact a4, by rw [hF]; omega, ?_⟩
  · obtain ⟨b1, b2, b3⟩ := a1 j hj
    rw [hL j hj, hT j hj]
    refine ⟨b1, b2, ?_⟩
    by_cases hji : j = i
    · subst hji
      exact Or.inr (Or.inl ⟨h3, sec', by rw [hF]; omega, hb, e2, e3⟩)
    · rw [hS j hj hji, hB j hj hji]
      rcases b3 with b3 | ⟨b3, b, b4, b5⟩ | b3
      · exact Or.inl b3
      · have b6 := b5.2.1
        rw [hair] at b6
        exact absurd b6 (by decide)
      · exact Or.inr (Or.inr b3)
  · rcases a6 with ⟨b1, b2⟩ | ⟨en, b1, b2, b3, ⟨b4, b5, b6⟩ | ⟨b4, b5, b6⟩ | ⟨b4, b5, b6⟩⟩
    · refine Or.inr ⟨sec' + l, by rw [e4, l3, nI_add], by omega, by rw [hF]; omega, Or.inl ⟨e2, ⟨i, hi, e3⟩, by rw [hF, hTT]; omega⟩⟩
    · rw [hair] at b4; exact absurd b4 (by decide)
    · rw [hair] at b4; exact absurd b4 (by decide)
    · rw [hair] at b4; exact absurd b4 (by decide)
