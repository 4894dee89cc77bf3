/-! The pure part: what is let go for time. -/
def pCW (s : FF) (n : Nat) : Nat := pC (fun i => decide (pS s i = 0)) n
theorem nf_u {s : FF} {n j j' : Nat} (hj : j ≤ n) (hj' : j' ≤ n) (h1 : j < n → pS s j = 0 ∧ pT s j ≠ -1) (h2 : ∀ k : Nat, k < j → ¬ (pS s k = 0 ∧ pT s k ≠ -1)) (k1 : j' < n → pS s j' = 0 ∧ pT s j' ≠ -1) (k2 : ∀ k : Nat, k < j' → ¬ (pS s k = 0 ∧ pT s k ≠ -1)) : j' = j := by
  rcases Nat.lt_trichotomy j' j with h | h | h
  · exact absurd (k1 (by omega)) (h2 j' h)
  · exact h
  · exact absurd (h1 (by omega)) (k2 j h)
theorem dft2 {E : Prop} {h : HV} {u : MV} {n m K j : Nat} {t : Int32} (h0 : HR0 h u.1 n m) (hl : LB E h.2.2.1 u.1 K) (hin : pIn u.1 n m K) (hj : j ≤ n) (hj1 : j < n → t = pT u.1 j ∧ pS u.1 j = 0 ∧ pT u.1 j ≠ -1) (hj2 : j = n → t = 3600) (hj3 : ∀ k : Nat, k < j → ¬ (pS u.1 k = 0 ∧ pT u.1 k ≠ -1)) {b : Int32} (hb : f_X7_lowest u (nI j) = some b) :
    ∃ (h' : HV) (s' : FF) (b' : Int32) (k' : Nat), f_X2_dropForTime h = some h' ∧ zloop (s_X7_finds_18 u (nI j) t) 4096 (b, u) = some (b', (s', u.2)) ∧ HR0 h' s' n m ∧ LB E h'.2.2.1 s' k' ∧ pIn s' n m k' ∧ (∀ i : Nat, i < 100 → i ≠ 9 → (∀ a : Nat, a < j → i ≠ 10 + 5 * a + 3) → s' i = u.1 i) ∧ (∀ a : Nat, a < j → pS u.1 a ≠ 0 → pS s' a = pS u.1 a) ∧ (∀ a : Nat, a < j → pT s' a = pT u.1 a) ∧ K ≤ k' := by
  obtain ⟨r, r', h1, h2, h', s', b', k', rfl, rfl, g1, g2, g3, g4, g5, g6⟩ := zl2 (f := s_X2_dropForTime_2 h) (g := s_X7_finds_18 u (nI j) t)
    (fun kk x y => ∃ (c k : Nat) (h' : HV) (s' : FF) (b : Int32), kk = pCW s' n ∧ c + pCW s' n ≤ 12 ∧ x = (nI c, h') ∧ y = (b, (s', u.2)) ∧ f_X7_lowest (s', u.2) (nI j) = some b ∧ HR0 h' s' n m ∧ LB E h'.2.2.1 s' k ∧ pIn s' n m k ∧ (∀ i : Nat, i < 100 → i ≠ 9 → (∀ a : Nat, a < j → i ≠ 10 + 5 * a + 3) → s' i = u.1 i) ∧ (∀ a : Nat, a < j → pS u.1 a ≠ 0 → pS s' a = pS u.1 a) ∧ K ≤ k)
    (fun r r' => ∃ (h' : HV) (s' : FF) (b' : Int32) (k' : Nat), r = h' ∧ r' = (b', (s', u.2)) ∧ HR0 h' s' n m ∧ LB E h'.2.2.1 s' k' ∧ pIn s' n m k' ∧ (∀ i : Nat, i < 100 → i ≠ 9 → (∀ a : Nat, a < j → i ≠ 10 + 5 * a + 3) → s' i = u.1 i) ∧ (∀ a : Nat, a < j → pS u.1 a ≠ 0 → pS s' a = pS u.1 a) ∧ K ≤ k')
    (by
      rintro kk x y ⟨c, k, h', s', b, rfl, hc, rfl, rfl, hb, g1, g2, g3, g4, g5, g6⟩
      have hn := g1.1.1
      -- the same next fixed one
      have hT : ∀ a : Nat, a < n → pT s' a = pT u.1 a := fun a ha => g4 _ (by omega) (by omega) (fun q hq => by omega)
      have q1 : j < n → pS s' j = 0 ∧ pT s' j ≠ -1 := fun hjn => by
        rw [hT j hjn]
        refine ⟨?_, (hj1 hjn).2.2⟩
        have : pS s' j = pS u.1 j := g4 _ (by omega) (by omega) (fun q hq => by omega)
        rw [this]
        exact (hj1 hjn).2.1
      have q2 : ∀ k : Nat, k < j → ¬ (pS s' k = 0 ∧ pT s' k ≠ -1) := fun k hk hq => by
        rw [hT k (by omega)] at hq
        by_cases h9 : pS u.1 k = 0
        · exact hj3 k hk ⟨h9, hq.2⟩
        · rw [g5 k hk h9] at hq
          exact h9 hq.1
      obtain ⟨j', t', e1, e2, e3, e4, e5, e6, e7, e8, e9, e10⟩ := goal2 (u := (s', u.2)) g1.1
      obtain rfl : j' = j := nf_u hj e1 q1 q2 (fun q => (e8 q).2) e10
      have ht : t' = t := by
        by_cases hjn : j' < n
        · have e8' : t' = pT s' j' := (e8 hjn).1
          rw [e8', (hj1 hjn).1, hT j' hjn]
        · rw [e9 (by omega), hj2 (by omega)]
      subst ht
      obtain ⟨b0, f1, f2, f3⟩ := le2 (u := (s', u.2)) g1.1 hj e2
      obtain rfl : b = b0 := by rw [hb] at f2; exact Option.some.inj f2
      obtain ⟨f4, f5⟩ := sl2 (u := (s', u.2)) g1.1 hj e2
      have h12 : ((12 : Int32) ≤ nI c) = (12 ≤ c) := le_n (a := 12) (by omega) (by omega)
      rcases f3 with rfl | ⟨a, ha, rfl, hwa⟩
      · -- none to let go
        refine Or.inl ⟨h', ((-1 : Int32), (s', u.2)), ?_, ?_, h', s', -1, k, rfl, rfl, g1, g2, g3, g4, g5, g6⟩
        · unfold s_X2_dropForTime_2
          rw [f1]
          simp
        · simp [s_X7_finds_18]
      · have hne : ¬ nI a = -1 := of_eq_false (ne1_n (by omega))
        have hwa' : pS s' a = 0 := hwa
        have hW : 1 ≤ pCW s' n := by
          have := pC_one (P := fun _ => false) (Q := fun i => decide (pS s' i = 0)) n (fun i _ hq => by cases hq) ⟨a, by omega, rfl, decide_eq_true hwa'⟩
          unfold pCW
          omega
        have hsec : h'.2.2.2.1 = s' 0 := g1.2.2.1
        by_cases hfit : t' < s' 0 + pSum (pS s') (pL s') j' 0 0
        · obtain ⟨h'', s'', d1, d2, d3, d4, d5, d6, d7⟩ := let2 (u := (s', u.2)) g1 g2 g3 (i := a) (by omega) hwa'
          have d7' : ∀ i : Nat, i < 100 → i ≠ 9 → i ≠ 10 + 5 * a + 3 → s'' i = s' i := d7
          obtain ⟨b1, -, f2', -⟩ := le2 (e := h''.1) (u := (s'', u.2)) d3.1 (j := j') hj (by
            obtain ⟨j2, t2, z1, z2, z3, z4, z5, z6, z7, z8, z9, z10⟩ := goal2 (u := (s'', u.2)) d3.1
            have hT2 : ∀ i : Nat, i < n → pT s'' i = pT s' i := fun i hi => d7' _ (by omega) (by omega) (by omega)
            obtain rfl : j2 = j' := nf_u hj z1 (fun q => by
                obtain ⟨q3, q4⟩ := q1 q
                have : pS s'' j' = pS s' j' := d7' _ (by omega) (by omega) (by omega)
                exact ⟨this.trans q3, by rw [hT2 j' q]; exact q4⟩) (fun i hi hq => by
                by_cases hia : i = a
                · subst hia
                  rw [d6] at hq
                  exact absurd hq.1 (by decide)
                · have : pS s'' i = pS s' i := d7' _ (by omega) (by omega) (by omega)
                  rw [this, hT2 i (by omega)] at hq
                  exact q2 i hi hq) (fun q => (z8 q).2) z10
            exact z2)
          have hW2 : pCW s'' n + 1 ≤ pCW s' n := pC_one n (fun i hi hp => by
            by_cases hia : i = a
            · subst hia
              have := of_decide_eq_true hp
              rw [d6] at this
              exact absurd this (by decide)
            · have : pS s'' i = pS s' i := d7' _ (by omega) (by omega) (by omega)
              rw [this] at hp
              exact hp) ⟨a, by omega, decide_eq_false (by rw [d6]; decide), decide_eq_true hwa'⟩
          refine Or.inr ⟨pCW s'' n, (nI (c + 1), h''), (b1, (s'', u.2)), ?_, ?_, by omega, c + 1, k + 1, h'', s'', b1, rfl, by omega, rfl, rfl, f2', d3, d4, d5, fun i hi h9 hia => ?_, fun i hi hq => ?_, by omega⟩
          · unfold s_X2_dropForTime_2
            rw [if_neg (by rw [h12]; omega), f1]
            simp only [Option.bind_some]
            rw [if_neg hne, f4]
            simp only [Option.bind_some]
            rw [e6]
            simp only [Option.bind_some]
            rw [if_pos (by rw [hsec]; exact hfit), d1]
            simp only [Option.bind_some]
            rw [nI_1]
          · unfold s_X7_finds_18
            rw [if_neg hne, f5]
            simp only [Option.bind_some]
            rw [if_neg (Int32.not_le.mpr hfit), d2]
            simp only [Option.bind_some]
            rw [f2']
            rfl
          · rw [d7' i hi h9 (hia a ha)]
            exact g4 i hi h9 hia
          · by_cases hia : i = a
            · subst hia
              exact absurd ((g5 i hi hq).symm.trans hwa') hq
            · have : pS s'' i = pS s' i := d7' _ (by omega) (by omega) (by omega)
              rw [this]
              exact g5 i hi hq
        · refine Or.inl ⟨h', (nI a, (s', u.2)), ?_, ?_, h', s', nI a, k, rfl, rfl, g1, g2, g3, g4, g5, g6⟩
          · unfold s_X2_dropForTime_2
            rw [if_neg (by rw [h12]; omega), f1]
            simp only [Option.bind_some]
            rw [if_neg hne, f4]
            simp only [Option.bind_some]
            rw [e6]
            simp only [Option.bind_some]
            rw [if_neg (by rw [hsec]; exact hfit)]
          · unfold s_X7_finds_18
            rw [if_neg hne, f5]
            simp only [Option.bind_some]
            rw [if_pos (Int32.not_lt.mp hfit)])
    4096 4096 (pCW u.1 n) (nI 0, h) (b, u) (by have := pC_le (fun i => decide (pS u.1 i = 0)) n; have := h0.1.1; unfold pCW; omega) (by have := pC_le (fun i => decide (pS u.1 i = 0)) n; have := h0.1.1; unfold pCW; omega)
    ⟨0, K, h, u.1, b, rfl, by have := pC_le (fun i => decide (pS u.1 i = 0)) n; have := h0.1.1; unfold pCW; omega, rfl, rfl, hb, h0, hl, hin, fun _ _ _ _ => rfl, fun _ _ _ => rfl, Nat.le_refl _⟩
  have hn := h0.1.1
  exact ⟨r, s', b', k', h1, h2, g1, g2, g3, g4, g5, fun a ha => g4 _ (by omega) (by omega) (fun q hq => by omega), g6⟩
