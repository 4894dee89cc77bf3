/-! The pure part: time goes on. -/
def pMs (s : FF) (k lN : Nat) : Nat := if s 1 = 1 ∨ lN = 0 then 0 else 1 + 2 * (35 - k) + (if s 2 = 0 then 0 else 1)
theorem pMs_le (s : FF) (k lN : Nat) : pMs s k lN ≤ 72 := by
  unfold pMs
  split
  · omega
  · split <;> omega
theorem run2 {E : Prop} {h : HV} {u : MV} {n m k sec lN T : Nat} {L : Int32} (h0 : HR0 h u.1 n m) (hl : LB E h.2.2.1 u.1 k) (hin : pIn u.1 n m k) (hsec : u.1 0 = nI sec) (hsec2 : sec < 2 ^ 31) (hT : sec + lN = T) (hL : pLim L T) :
    ∃ (h' : HV) (s' : FF) (k' sec' lN' : Nat), f_X2_runTo h L = some h' ∧ zloop (s_X7_goesOn_2 u (nI lN)) 4096 (nI lN, u) = some (nI lN', (s', u.2)) ∧ HR0 h' s' n m ∧ LB E h'.2.2.1 s' k' ∧ pIn s' n m k' ∧ s' 0 = nI sec' ∧ sec' < 2 ^ 31 ∧ sec' + lN' = T := by
  have hT9 : T ≤ 200000000 := by rcases hL with ⟨-, q⟩ | ⟨-, -, q⟩ <;> omega
  obtain ⟨r, r', e1, e2, c, h', s', k', sec', lN', rfl, rfl, g1, g2, g3, g4, g5, g6⟩ := zl2 (f := s_X2_runTo_2 h L) (g := s_X7_goesOn_2 u (nI lN))
    (fun kk x y => ∃ (c k : Nat) (h' : HV) (s' : FF) (sec lN : Nat), kk = pMs s' k lN ∧ c + pMs s' k lN ≤ 72 ∧ x = (nI c, h') ∧ y = (nI lN, (s', u.2)) ∧ HR0 h' s' n m ∧ LB E h'.2.2.1 s' k ∧ pIn s' n m k ∧ s' 0 = nI sec ∧ sec < 2 ^ 31 ∧ sec + lN = T)
    (fun r r' => ∃ (c : Nat) (h' : HV) (s' : FF) (k' sec' lN' : Nat), r = (nI c, h') ∧ r' = (nI lN', (s', u.2)) ∧ HR0 h' s' n m ∧ LB E h'.2.2.1 s' k' ∧ pIn s' n m k' ∧ s' 0 = nI sec' ∧ sec' < 2 ^ 31 ∧ sec' + lN' = T)
    (by
      rintro kk x y ⟨c, k, h', s', sec, lN, rfl, hc, rfl, rfl, g1, g2, g3, g4, g5, g6⟩
      have hn := g1.1.1
      have hm := g1.2.1.1
      have hk : k ≤ 35 := pIn_k hn hm g3
      have aE : pCE s' n ≤ n := pC_le _ n
      have aF : pCF s' m ≤ m := pC_le _ m
      have hsm : sec ≤ 90000 := by
        obtain ⟨-, -, -, sc, b1, b2, -⟩ := g3
        rw [g4, nI_eq g5 (by omega)] at b1
        omega
      have hs0 : h'.2.2.2.1 = nI sec := g1.2.2.1.trans g4
      have hov : zb h'.2.2.2.2.1 = s' 1 := g1.2.2.2.1
      have hcond : (L ≤ h'.2.2.2.1) = (lN = 0) := by
        rw [hs0]
        apply propext
        rcases hL with ⟨q, -⟩ | ⟨q, q2, -⟩
        · rw [q, nI_leI (by omega) (by omega)]; omega
        · rw [q]
          show nI 1000000 ≤ nI sec ↔ lN = 0
          rw [nI_leI (by omega) (by omega)]; omega
      have hcond2 : (nI lN ≤ (0 : Int32)) = (lN = 0) := by
        apply propext
        show nI lN ≤ nI 0 ↔ lN = 0
        rw [nI_leI (by omega) (by omega)]; omega
      have h1000 : ¬ (1000 : Int32) ≤ nI c := by
        show ¬ nI 1000 ≤ nI c
        rw [nI_leI (by omega) (by omega)]; omega
      have hleft : ∃ (c' : Nat) (h'' : HV) (s'' : FF) (k' sec' lN' : Nat), ((nI c, h') : Int32 × HV) = (nI c', h'') ∧ ((nI lN, (s', u.2)) : Int32 × MV) = (nI lN', (s'', u.2)) ∧ HR0 h'' s'' n m ∧ LB E h''.2.2.1 s'' k' ∧ pIn s'' n m k' ∧ s'' 0 = nI sec' ∧ sec' < 2 ^ 31 ∧ sec' + lN' = T := ⟨c, h', s', k, sec, lN, rfl, rfl, g1, g2, g3, g4, g5, g6⟩
      rw [r7step]
      unfold s_X2_runTo_2
      simp only [hcond, hcond2, hov]
      rw [if_neg h1000]
      by_cases hl0 : lN = 0
      · rw [if_pos hl0, if_pos hl0]
        exact Or.inl ⟨_, _, rfl, rfl, hleft⟩
      · rw [if_neg hl0, if_neg hl0]
        by_cases ho : s' 1 = 0
        · simp only [if_pos ho]
          by_cases hair : s' 2 = 0
          · have hkind : h'.2.2.2.2.2.2.2.2.1 = -1 := by
              obtain ⟨-, -, -, -, -, -, -, r8⟩ := g1
              rcases r8 with ⟨r8, -⟩ | ⟨a, a1, -, a3, -⟩
              · exact r8
              · rw [hair] at a3
                have a3' : nI 0 = nI (a + 1) := a3
                rw [nI_eq (by omega) (by omega)] at a3'
                omega
            obtain ⟨h1, s1, k1, f1, f2, f3, f4, f5, f6, f7⟩ := find2 (u := (s', u.2)) g1 g2 g3 hair ho
            have f6' : s1 0 = nI sec := f6.trans g4
            have hov1 : zb h1.2.2.2.2.1 = s1 1 := f3.2.2.2.1
            have hk1 : k1 ≤ 35 := pIn_k hn hm f5
            rw [if_pos hkind, if_pos hair, f1, f2]
            simp only [Option.bind_some, hov1]
            rcases f7 with ⟨f7, f8⟩ | ⟨f7, f8, f9⟩
            · rw [if_neg (by rw [f7]; decide), if_neg (by rw [f7]; decide)]
              have hms : pMs s1 k1 lN = 0 := by unfold pMs; rw [if_pos (Or.inl f7)]
              have hms0 : 0 < pMs s' k lN := by
                unfold pMs
                rw [if_neg (by rw [ho]; rintro (q | q); exact absurd q (by decide); exact hl0 q)]
                omega
              exact Or.inr ⟨0, (nI c + 1, h1), (nI lN, (s1, u.2)), rfl, rfl, hms0, c + 1, k1, h1, s1, sec, lN, hms.symm, by omega, by rw [nI_1], rfl, f3, f4, f5, f6', g5, g6⟩
            · rw [if_pos f7, if_pos f7]
              obtain ⟨h2, s2, sec2, lN2, p1, p2, p3, p4, p5, p6, p7, p8, p9, p10⟩ := pass2 (u := (s1, u.2)) f3 f4 f5 f8 f6' g5 g6 hL
              rw [p1, p2]
              simp only [Option.bind_some]
              have hms : pMs s2 k1 lN2 ≤ 1 + 2 * (35 - k1) := by
                unfold pMs
                split
                · omega
                · rename_i q
                  rw [if_pos (p10.resolve_right (fun z => q (Or.inr z)))]
                  omega
              have hms0 : pMs s' k lN = 1 + 2 * (35 - k) := by
                unfold pMs
                rw [if_neg (by rw [ho]; rintro (q | q); exact absurd q (by decide); exact hl0 q), if_pos hair, Nat.add_zero]
              exact Or.inr ⟨pMs s2 k1 lN2, (nI c + 1, h2), (nI lN2, (s2, u.2)), rfl, rfl, by omega, c + 1, k1, h2, s2, sec2, lN2, rfl, by omega, by rw [nI_1], rfl, p3, p4, p5, p6, p7, p8⟩
          · have hkind : ¬ h'.2.2.2.2.2.2.2.2.1 = -1 := by
              obtain ⟨-, -, -, -, -, -, -, r8⟩ := g1
              rcases r8 with ⟨-, r8⟩ | ⟨a, a1, a2, -, -⟩
              · exact absurd r8 hair
              · rw [a2]
                exact of_eq_false (ne1_n (by omega))
            rw [if_neg hkind, if_neg hair]
            obtain ⟨h2, s2, sec2, lN2, p1, p2, p3, p4, p5, p6, p7, p8, p9, p10⟩ := pass2 (u := (s', u.2)) g1 g2 g3 hair g4 g5 g6 hL
            rw [p1, p2]
            simp only [Option.bind_some]
            have hms : pMs s2 k lN2 ≤ 1 + 2 * (35 - k) := by
              unfold pMs
              split
              · omega
              · rename_i q
                rw [if_pos (p10.resolve_right (fun z => q (Or.inr z)))]
                omega
            have hms0 : pMs s' k lN = 1 + 2 * (35 - k) + 1 := by
              unfold pMs
              rw [if_neg (by rw [ho]; rintro (q | q); exact absurd q (by decide); exact hl0 q), if_neg hair]
            exact Or.inr ⟨pMs s2 k lN2, (nI c + 1, h2), (nI lN2, (s2, u.2)), rfl, rfl, by omega, c + 1, k, h2, s2, sec2, lN2, rfl, by omega, by rw [nI_1], rfl, p3, p4, p5, p6, p7, p8⟩
        · simp only [if_neg ho]
          exact Or.inl ⟨_, _, rfl, rfl, hleft⟩)
    4096 4096 (pMs u.1 k lN) (nI 0, h) (nI lN, u) (by have := pMs_le u.1 k lN; omega) (by have := pMs_le u.1 k lN; omega)
    ⟨0, k, h, u.1, sec, lN, rfl, by have := pMs_le u.1 k lN; omega, rfl, rfl, h0, hl, hin, hsec, hsec2, hT⟩
  refine ⟨h', s', k', sec', lN', ?_, e2, g1, g2, g3, g4, g5, g6⟩
  unfold f_X2_runTo
  have e1' : zloop (s_X2_runTo_2 h L) 4096 (0, h) = some (nI c, h') := e1
  rw [e1']
  rfl
