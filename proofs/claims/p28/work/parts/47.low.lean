/-! The pure part: the next full sum; the least member. -/
theorem low7 : ∀ B, B < 1024 → B ≠ 0 → f_X7_lowestOf (nI B) = some (nI (tz 10 B)) := by decide +kernel
theorem low_b : ∀ B, B < 1024 → B ≠ 0 → B.testBit (tz 10 B) = true ∧ tz 10 B < 10 := by decide +kernel
theorem low_0 : f_J6_numberOfTrailingZeros_0f7a4 (nI 0) = some 32 := by decide +kernel
theorem pWm_b (s : FF) : ∀ (m i : Nat), (pWm s m).testBit i = true → i < m ∧ pfS s i = 0 := by
  intro m
  induction m with
  | zero => intro i h; simp [pWm, pF] at h
  | succ m ih =>
    intro i h
    rw [pWm_s] at h
    by_cases hc : pfS s m = 0
    · rw [if_pos hc, Nat.testBit_or, Nat.testBit_two_pow] at h
      by_cases hi : m = i
      · subst hi; exact ⟨by omega, hc⟩
      · simp [hi] at h
        obtain ⟨h1, h2⟩ := ih i h
        exact ⟨by omega, h2⟩
    · rw [if_neg hc] at h
      obtain ⟨h1, h2⟩ := ih i h
      exact ⟨by omega, h2⟩
