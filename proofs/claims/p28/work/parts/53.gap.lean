/-! The pure part: what a row keeps, when a filler or a silence begins. -/
theorem pIn_fil {s s' : FF} {n m k i sec : Nat} (hn : n ≤ 12) (hm : m ≤ 10) (h : pIn s n m k) (hair : s 2 = 0) (hsec : s 0 = nI sec) (hsec2 : sec < 2 ^ 31) (hi : i < m) (h0 : pfS s i = 0) (h3 : pfS s' i = 1) (e2 : s' 2 = 2) (e3 : s' 3 = nI i) (e4 : s' 4 = nI sec + pfL s i)
    (hs : ∀ j : Nat, j < 100 → j ≠ 9 → j ≠ 2 → j ≠ 3 → j ≠ 4 → j ≠ 70 + 3 * i + 1 → j ≠ 70 + 3 * i + 2 → s' j = s j) : pIn s' n m (k + 1) := by
  have hL : ∀ j : Nat, j < n → pL s' j = pL s j := fun j hj => hs _ (by omega) (by omega) (by omega) (by omega) (by omega) (by omega) (by omega)
  have hT : ∀ j : Nat, j < n → pT s' j = pT s j := fun j hj => hs _ (by omega) (by omega) (by omega) (by omega) (by omega) (by omega) (by omega)
  have hB : ∀ j : Nat, j < n → pB s' j = pB s j := fun j hj => hs _ (by omega) (by omega) (by omega) (by omega) (by omega) (by omega) (by omega)
  have hS : ∀ j : Nat, j < n → pS s' j = pS s j := fun j hj => hs _ (by omega) (by omega) (by omega) (by omega) (by omega) (by omega) (by omega)
  have hfL : ∀ j : Nat, j < m → pfL s' j = pfL s j := fun j hj => hs _ (by omega) (by omega) (by omega) (by omega) (by omega) (by omega) (by omega)
  have hfS : ∀ j : Nat, j < m → j ≠ i → pfS s' j = pfS s j := fun j hj hji => hs _ (by omega) (by omega) (by omega) (by omega) (by omega) (by omega) (by omega)
  have hF : pCF s m + 1 ≤ pCF s' m := pC_one m (fun j hj hp => by
    by_cases hji : j = i
    · subst hji; exact absurd h0 (of_decide_eq_true hp)
    · rw [hfS j hj hji]; exact hp) ⟨i, hi, decide_eq_false (fun q => q h0), decide_eq_true (by rw [h3]; decide)⟩
  have hE : pCE s' n = pCE s n := pC_cong n (fun j hj => by rw [hS j hj])
  have hTT : ∀ B : Nat, pCT s' n B = pCT s n B := fun B => by
    unfold pCT
    rw [pC_cong n (fun j hj => by rw [hT j hj])]
  obtain ⟨a1, a2, a3, sec', a4, a5, a6⟩ := h
  have aE : pCE s n ≤ n := pC_le _ n
  have aF : pCF s m ≤ m := pC_le _ m
  obtain rfl : sec' = sec := by
    rw [hsec, nI_eq hsec2 (by omega)] at a4
    exact a4.symm
  obtain ⟨l, l1, l2, l3⟩ := a2 i hi
  refine ⟨fun j hj => ?_, fun j hj => by rw [hfL j hj]; exact a2 j hj, by rw [hs 1 (by omega) (by omega) (by omega) (by omega) (by omega) (by omega) (by omega)]; exact a3, sec', by rw [hs 0 (by omega) (by omega) (by omega) (by omega) (by omega) (by omega) (by omega)]; exact a4, by rw [hE]; omega, ?_⟩
  · obtain ⟨b1, b2, b3⟩ := a1 j hj
    rw [hL j hj, hT j hj, hS j hj, hB j hj]
    refine ⟨b1, b2, ?_⟩
    rcases b3 with b3 | ⟨b3, b, b4, b5⟩ | b3
    · exact Or.inl b3
    · have b6 := b5.2.1
      rw [hair] at b6
      exact absurd b6 (by decide)
    · exact Or.inr (Or.inr b3)
  · rcases a6 with ⟨b1, b2⟩ | ⟨en, b1, b2, b3, ⟨b4, b5, b6⟩ | ⟨b4, b5, b6⟩ | ⟨b4, b5, b6⟩⟩
    · exact Or.inr ⟨sec' + l, by rw [e4, l3, nI_add], by omega, by rw [hE]; omega, Or.inr (Or.inl ⟨e2, ⟨i, hi, e3⟩, by rw [hE, hTT]; omega⟩)⟩
    · rw [hair] at b4; exact absurd b4 (by decide)
    · rw [hair] at b4; exact absurd b4 (by decide)
    · rw [hair] at b4; exact absurd b4 (by decide)
/-- a silence begins: it ends at a time above the second -/
theorem pIn_sil {s s' : FF} {n m k sec t : Nat} (hn : n ≤ 12) (hm : m ≤ 10) (h : pIn s n m k) (hair : s 2 = 0) (hsec : s 0 = nI sec) (hsec2 : sec < 2 ^ 31) (hst : sec < t) (ht : t ≤ 3600) (hg : t = 3600 ∨ ∃ i : Nat, i < n ∧ pT s i = nI t) (e2 : s' 2 = 3) (e3 : s' 3 = -1) (e4 : s' 4 = nI t)
    (hs : ∀ j : Nat, j < 100 → j ≠ 9 → j ≠ 2 → j ≠ 3 → j ≠ 4 → s' j = s j) : pIn s' n m (k + 1) := by
  have hL : ∀ j : Nat, j < n → pL s' j = pL s j := fun j hj => hs _ (by omega) (by omega) (by omega) (by omega) (by omega)
  have hT : ∀ j : Nat, j < n → pT s' j = pT s j := fun j hj => hs _ (by omega) (by omega) (by omega) (by omega) (by omega)
  have hB : ∀ j : Nat, j < n → pB s' j = pB s j := fun j hj => hs _ (by omega) (by omega) (by omega) (by omega) (by omega)
  have hS : ∀ j : Nat, j < n → pS s' j = pS s j := fun j hj => hs _ (by omega) (by omega) (by omega) (by omega) (by omega)
  have hfL : ∀ j : Nat, j < m → pfL s' j = pfL s j := fun j hj => hs _ (by omega) (by omega) (by omega) (by omega) (by omega)
  have hfS : ∀ j : Nat, j < m → pfS s' j = pfS s j := fun j hj => hs _ (by omega) (by omega) (by omega) (by omega) (by omega)
  have hF : pCF s' m = pCF s m := pC_cong m (fun j hj => by rw [hfS j hj])
  have hE : pCE s' n = pCE s n := pC_cong n (fun j hj => by rw [hS j hj])
  have hTT : ∀ B : Nat, pCT s' n B = pCT s n B := fun B => by
    unfold pCT
    rw [pC_cong n (fun j hj => by rw [hT j hj])]
  obtain ⟨a1, a2, a3, sec', a4, a5, a6⟩ := h
  have aE : pCE s n ≤ n := pC_le _ n
  have aF : pCF s m ≤ m := pC_le _ m
  obtain rfl : sec' = sec := by
    rw [hsec, nI_eq hsec2 (by omega)] at a4
    exact a4.symm
  have hone := pCT_one (s := s) (n := n) hst ht hg
  refine ⟨fun j hj => ?_, fun j hj => by rw [hfL j hj]; exact a2 j hj, by rw [hs 1 (by omega) (by omega) (by omega) (by omega) (by omega)]; exact a3, sec', by rw [hs 0 (by omega) (by omega) (by omega) (by omega) (by omega)]; exact a4, by rw [hE, hF]; omega, ?_⟩
  · obtain ⟨b1, b2, b3⟩ := a1 j hj
    rw [hL j hj, hT j hj, hS j hj, hB j hj, hE, hF]
    refine ⟨b1, b2, ?_⟩
    rcases b3 with b3 | ⟨b3, b, b4, b5⟩ | b3
    · exact Or.inl b3
    · have b6 := b5.2.1
      rw [hair] at b6
      exact absurd b6 (by decide)
    · exact Or.inr (Or.inr b3)
  · rcases a6 with ⟨b1, b2⟩ | ⟨en, b1, b2, b3, ⟨b4, b5, b6⟩ | ⟨b4, b5, b6⟩ | ⟨b4, b5, b6⟩⟩
    · exact Or.inr ⟨t, e4, hst, by rw [hE, hF]; omega, Or.inr (Or.inr ⟨e2, e3, by rw [hE, hF, hTT]; omega⟩)⟩
    · rw [hair] at b4; exact absurd b4 (by decide)
    · rw [hair] at b4; exact absurd b4 (by decide)
    · rw [hair] at b4; exact absurd b4 (by decide)
/-- room for one more entry, when a filler or a silence is about to begin -/
theorem pIn_room {s : FF} {n m k sec t : Nat} (hn : n ≤ 12) (hm : m ≤ 10) (h : pIn s n m k) (hair : s 2 = 0) (hsec : s 0 = nI sec) (hsec2 : sec < 2 ^ 31) (hst : sec < t) (ht : t ≤ 3600) (hg : t = 3600 ∨ ∃ i : Nat, i < n ∧ pT s i = nI t) : k < 35 := by
  have h1 := pIn_sil (s' := upd (upd (upd s 2 3) 3 (-1)) 4 (nI t)) hn hm h hair hsec hsec2 hst ht hg (by rw [pk_un (by omega), pk_un (by omega), pk_us]) (by rw [pk_un (by omega), pk_us]) pk_us (fun j _ _ q2 q3 q4 => by rw [pk_un q4, pk_un q3, pk_un q2])
  have := pIn_k hn hm h1
  omega
