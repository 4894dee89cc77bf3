/-! The pure part: what a row keeps, when what is on the air ends. -/
theorem pIn_end {s s' : FF} {n m k : Nat} (hn : n ≤ 12) (hm : m ≤ 10) (h : pIn s n m k) (hair : s 2 ≠ 0)
    (hL : ∀ j : Nat, j < n → pL s' j = pL s j) (hT : ∀ j : Nat, j < n → pT s' j = pT s j) (hB : ∀ j : Nat, j < n → pB s' j = pB s j) (hS : ∀ j : Nat, j < n → pS s' j = pS s j ∨ pS s' j = 2) (hno : ∀ j : Nat, j < n → s 2 = 1 → s 3 = nI j → pS s' j = 2)
    (hfL : ∀ j : Nat, j < m → pfL s' j = pfL s j) (hfS : ∀ j : Nat, j < m → pfS s' j = pfS s j ∨ pfS s' j = 2) (e0 : s' 0 = s 4) (e1 : s' 1 = s 1) (e2 : s' 2 = 0) : pIn s' n m k := by
  have hE : pCE s n ≤ pCE s' n := pC_mono n (fun j hj hp => by
    rcases hS j hj with q | q
    · rw [q]; exact hp
    · rw [q]; decide)
  have hF : pCF s m ≤ pCF s' m := pC_mono m (fun j hj hp => by
    rcases hfS j hj with q | q
    · rw [q]; exact hp
    · rw [q]; decide)
  have hTT : ∀ B : Nat, pCT s' n B = pCT s n B := fun B => by
    unfold pCT
    rw [pC_cong n (fun j hj => by rw [hT j hj])]
  have aE : pCE s n ≤ n := pC_le _ n
  have aF : pCF s m ≤ m := pC_le _ m
  obtain ⟨a1, a2, a3, sec, a4, a5, a6⟩ := h
  obtain ⟨en, b1, b2, b3, b4⟩ : ∃ en : Nat, s 4 = nI en ∧ sec < en ∧ en ≤ 3600 * (1 + pCE s n + pCF s m) ∧ k ≤ pCE s n + pCF s m + pCT s n en := by
    rcases a6 with ⟨b1, b2⟩ | ⟨en, b1, b2, b3, ⟨b4, b5, b6⟩ | ⟨b4, b5, b6⟩ | ⟨b4, b5, b6⟩⟩
    · exact absurd b1 hair
    · have := pCT_mono (s := s) (n := n) (B := sec) (C := en) (by omega) (by omega)
      exact ⟨en, b1, b2, b3, by omega⟩
    · have := pCT_mono (s := s) (n := n) (B := sec) (C := en) (by omega) (by omega)
      exact ⟨en, b1, b2, b3, by omega⟩
    · exact ⟨en, b1, b2, b3, b6⟩
  refine ⟨fun j hj => ?_, fun j hj => by rw [hfL j hj]; exact a2 j hj, by rw [e1]; exact a3, en, by rw [e0]; exact b1, by omega, Or.inl ⟨e2, by rw [hTT]; omega⟩⟩
  obtain ⟨c1, c2, c3⟩ := a1 j hj
  rw [hL j hj, hT j hj, hB j hj]
  refine ⟨c1, c2, ?_⟩
  by_cases hon : s 2 = 1 ∧ s 3 = nI j
  · exact Or.inr (Or.inr (Or.inl (hno j hj hon.1 hon.2)))
  · rcases hS j hj with q | q
    · rw [q]
      rcases c3 with c3 | ⟨c3, b, c4, c5⟩ | c3
      · exact Or.inl c3
      · exact absurd c5.2 hon
      · exact Or.inr (Or.inr c3)
    · exact Or.inr (Or.inr (Or.inl q))
