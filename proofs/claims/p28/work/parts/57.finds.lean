/-! The pure part: what comes next. -/
theorem find2 {E : Prop} {h : HV} {u : MV} {n m k : Nat} (h0 : HR0 h u.1 n m) (hl : LB E h.2.2.1 u.1 k) (hin : pIn u.1 n m k) (hair : u.1 2 = 0) (hov : u.1 1 = 0) :
    ∃ (h' : HV) (s' : FF) (k' : Nat), f_X2_findNext h = some h' ∧ f_X7_finds u = some (s', u.2) ∧ HR0 h' s' n m ∧ LB E h'.2.2.1 s' k' ∧ pIn s' n m k' ∧ s' 0 = u.1 0 ∧ ((s' 1 = 1 ∧ s' 2 = 0) ∨ (s' 1 = 0 ∧ s' 2 ≠ 0 ∧ k + 1 ≤ k')) := by
  have hn := h0.1.1
  have hm := h0.2.1.1
  obtain ⟨j, t, e1, e2, e3, e4, e5, e6, e7, e8, e9, e10⟩ := goal2 h0.1
  obtain ⟨b, f1, f2, -⟩ := le2 h0.1 e1 e2
  obtain ⟨h1, s1, b1, k1, d1, d2, d3, d4, d5, d6, d7, d8, d9⟩ := dft2 h0 hl hin e1 e8 e9 e10 f2
  have hT : ∀ a : Nat, a < n → pT s1 a = pT u.1 a := fun a ha => d6 _ (by omega) (by omega) (fun q hq => by omega)
  have z0 : s1 0 = u.1 0 := d6 0 (by omega) (by omega) (fun q hq => by omega)
  have z1 : s1 1 = 0 := (d6 1 (by omega) (by omega) (fun q hq => by omega)).trans hov
  have z2 : s1 2 = 0 := (d6 2 (by omega) (by omega) (fun q hq => by omega)).trans hair
  have hsec1 : h1.2.2.2.1 = s1 0 := d3.2.2.1
  obtain ⟨sec, hs0, hs31⟩ : ∃ sec : Nat, s1 0 = nI sec ∧ sec < 100000 := by
    obtain ⟨-, -, -, sec, q1, q2, -⟩ := d5
    have aE : pCE s1 n ≤ n := pC_le _ n
    have aF : pCF s1 m ≤ m := pC_le _ m
    exact ⟨sec, q1, by omega⟩
  have q1 : j < n → pS s1 j = 0 ∧ pT s1 j ≠ -1 := fun hjn => by
    rw [hT j hjn]
    refine ⟨?_, (e8 hjn).2.2⟩
    have : pS s1 j = pS u.1 j := d6 _ (by omega) (by omega) (fun q hq => by omega)
    rw [this]
    exact (e8 hjn).2.1
  have q2 : ∀ i : Nat, i < j → ¬ (pS s1 i = 0 ∧ pT s1 i ≠ -1) := fun i hi hq => by
    rw [hT i (by omega)] at hq
    by_cases h9 : pS u.1 i = 0
    · exact e10 i hi ⟨h9, hq.2⟩
    · rw [d7 i hi h9] at hq
      exact h9 hq.1
  -- the goal after the drops
  obtain ⟨j', t', y1, y2, y3, y4, y5, y6, y7, y8, y9, y10⟩ := goal2 (u := (s1, u.2)) d3.1
  obtain rfl : j' = j := nf_u e1 y1 q1 q2 (fun q => (y8 q).2) y10
  have ht : t' = t := by
    by_cases hjn : j' < n
    · have e8' : t' = pT s1 j' := (y8 hjn).1
      rw [e8', (e8 hjn).1, hT j' hjn]
    · rw [y9 (by omega), e9 (by omega)]
  subst ht
  obtain ⟨tt, ht1, ht2, ht3⟩ : ∃ tt : Nat, t' = nI tt ∧ tt ≤ 3600 ∧ (tt = 3600 ∨ ∃ i : Nat, i < n ∧ pT s1 i = nI tt) := by
    by_cases hjn : j' < n
    · obtain ⟨-, w2, -⟩ := d5.1 j' hjn
      rcases w2 with w2 | ⟨tt, w2, w3⟩
      · exact absurd w2 (q1 hjn).2
      · exact ⟨tt, ((y8 hjn).1).trans w3, by omega, Or.inr ⟨j', hjn, w3⟩⟩
    · exact ⟨3600, y9 (by omega), by omega, Or.inl rfl⟩
  obtain ⟨a, v1, v2, v3, v4⟩ := fw7 (u := (s1, u.2)) (j := j') (by omega)
  obtain ⟨c, w1, w2, w3, w4⟩ := fw0 d3.1
  have hle : (t' ≤ s1 0) = (tt ≤ sec) := by rw [ht1, hs0]; exact le_n (by omega) (by omega)
  have hN7 : s1 7 = nI n := d3.1.2.2.1
  have hn7 : (nI n ≤ nI j') = (n ≤ j') := le_n (by omega) (by omega)
  by_cases haj : a < j'
  · -- one of the section begins
    have hwa : pS s1 a = 0 := v3 haj
    obtain rfl : c = a := by
      rcases Nat.lt_trichotomy c a with q | q | q
      · exact absurd (w3 (by omega)) (v4 c q)
      · exact q
      · exact absurd hwa (w4 a q)
    have hnf : pT s1 c = -1 := by
      by_cases hq : pT s1 c = -1
      · exact hq
      · exact absurd ⟨hwa, hq⟩ (q2 c haj)
    obtain ⟨h2, s2, g1, g2, g3, g4, g5, g6, g7, g8⟩ := beg2 (u := (s1, u.2)) d3 d4 d5 z2 (i := c) (by omega) hwa
    have hne : ¬ nI c = -1 := of_eq_false (ne1_n (by omega))
    refine ⟨h2, s2, k1 + 1, ?_, ?_, g3, g4, g5, g7.trans z0, Or.inr ⟨g8.trans z1, by rw [g6]; decide, by omega⟩⟩
    · unfold f_X2_findNext
      rw [d1]
      simp only [Option.bind_some]
      rw [w2, if_neg (show ¬ c = n by omega)]
      simp only [Option.bind_some]
      rw [if_neg hne, fx0 d3.1 (show c < n by omega)]
      simp only [Option.bind_some]
      rw [if_pos (by rw [hnf]; decide), y6]
      simp only [Option.bind_some]
      rw [if_neg hne, g1]
      rfl
    · unfold f_X7_finds
      rw [e3]
      simp only [Option.bind_some]
      rw [e5]
      simp only [Option.bind_some]
      rw [f2]
      simp only [Option.bind_some]
      rw [d2]
      simp only [Option.bind_some]
      rw [v2, if_neg (show ¬ c = j' by omega)]
      simp only [Option.bind_some]
      rw [if_neg hne, g2]
      rfl
  · obtain rfl : a = j' := by omega
    have hcn : c = a := by
      by_cases han : a < n
      · rcases Nat.lt_trichotomy c a with q | q | q
        · exact absurd (w3 (by omega)) (v4 c q)
        · exact q
        · exact absurd (q1 han).1 (w4 a q)
      · by_cases hq : c < a
        · exact absurd (w3 (by omega)) (v4 c hq)
        · omega
    subst hcn
    by_cases hgo : tt ≤ sec
    · by_cases hcn : c < n
      · obtain ⟨h2, s2, g1, g2, g3, g4, g5, g6, g7, g8⟩ := beg2 (u := (s1, u.2)) d3 d4 d5 z2 (i := c) hcn (q1 hcn).1
        have hne : ¬ nI c = -1 := of_eq_false (ne1_n (by omega))
        refine ⟨h2, s2, k1 + 1, ?_, ?_, g3, g4, g5, g7.trans z0, Or.inr ⟨g8.trans z1, by rw [g6]; decide, by omega⟩⟩
        · unfold f_X2_findNext
          rw [d1]
          simp only [Option.bind_some]
          rw [w2, if_neg (show ¬ c = n by omega)]
          simp only [Option.bind_some]
          rw [if_neg hne, fx0 d3.1 hcn]
          simp only [Option.bind_some]
          rw [if_neg (by rw [decide_eq_true (q1 hcn).2]; decide), y6]
          simp only [Option.bind_some]
          rw [if_pos (by rw [hsec1, hle]; exact hgo), if_neg hne, g1]
          rfl
        · unfold f_X7_finds
          rw [e3]
          simp only [Option.bind_some]
          rw [e5]
          simp only [Option.bind_some]
          rw [f2]
          simp only [Option.bind_some]
          rw [d2]
          simp only [Option.bind_some]
          rw [v2, if_pos rfl]
          simp only [Option.bind_some]
          rw [if_pos trivial, if_pos (by rw [hle]; exact hgo), if_neg (by rw [hN7, hn7]; omega), g2]
          rfl
      · obtain rfl : c = n := by omega
        obtain ⟨g1, g2⟩ := ovr2 d3 d5 z2
        refine ⟨_, upd s1 1 1, k1, ?_, ?_, g1, LB_ag d4 (fun j hj => pk_un (by omega)), g2, (pk_un (by omega)).trans z0, Or.inl ⟨pk_us, (pk_un (by omega)).trans z2⟩⟩
        · unfold f_X2_findNext
          rw [d1]
          simp only [Option.bind_some]
          rw [w2, if_pos rfl]
          simp only [Option.bind_some]
          rw [if_pos trivial, y6]
          simp only [Option.bind_some]
          rw [if_pos (by rw [hsec1, hle]; exact hgo), if_pos trivial]
        · unfold f_X7_finds
          rw [e3]
          simp only [Option.bind_some]
          rw [e5]
          simp only [Option.bind_some]
          rw [f2]
          simp only [Option.bind_some]
          rw [d2]
          simp only [Option.bind_some]
          rw [v2, if_pos rfl]
          simp only [Option.bind_some]
          rw [if_pos trivial, if_pos (by rw [hle]; exact hgo), if_pos (by rw [hN7]; exact Int32.le_refl _)]
    · obtain ⟨h2, s2, g1, g2, g3, g4, g5, g6, g7, g8⟩ := gap2 (u := (s1, u.2)) (t := tt) d3 d4 d5 z2 hs0 (by omega) (by omega) ht2 ht3
      rw [← ht1] at g1 g2
      refine ⟨h2, s2, k1 + 1, ?_, ?_, g3, g4, g5, g7.trans z0, Or.inr ⟨g8.trans z1, g6, by omega⟩⟩
      · unfold f_X2_findNext
        rw [d1]
        simp only [Option.bind_some]
        by_cases hcn : c < n
        · have hne : ¬ nI c = -1 := of_eq_false (ne1_n (by omega))
          rw [w2, if_neg (show ¬ c = n by omega)]
          simp only [Option.bind_some]
          rw [if_neg hne, fx0 d3.1 hcn]
          simp only [Option.bind_some]
          rw [if_neg (by rw [decide_eq_true (q1 hcn).2]; decide), y6]
          simp only [Option.bind_some]
          rw [if_neg (by rw [hsec1, hle]; exact hgo), g1]
          rfl
        · rw [w2, if_pos (by omega)]
          simp only [Option.bind_some]
          rw [if_pos trivial, y6]
          simp only [Option.bind_some]
          rw [if_neg (by rw [hsec1, hle]; exact hgo), g1]
          rfl
      · unfold f_X7_finds
        rw [e3]
        simp only [Option.bind_some]
        rw [e5]
        simp only [Option.bind_some]
        rw [f2]
        simp only [Option.bind_some]
        rw [d2]
        simp only [Option.bind_some]
        rw [v2, if_pos rfl]
        simp only [Option.bind_some]
        rw [if_pos trivial, if_neg (by rw [hle]; exact hgo)]
        exact g2
