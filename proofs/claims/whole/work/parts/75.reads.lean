/-! The pure part: an hour is read from a text. -/
theorem emp2 (w : HV) : ∃ h0 : HV, f_X2_becomeEmpty w = some h0 ∧ ∀ s : FF, (∀ j : Nat, j < 220 → s j = 0) → HR0 h0 s 0 0 ∧ LB True h0.2.2.1 s 0 ∧ pIn s 0 0 0 := by
  obtain ⟨st, bg, a1, -⟩ := alw0 (e := (0, w.1.2.1, w.1.2.2.1, w.1.2.2.2.1, w.1.2.2.2.2.1, w.1.2.2.2.2.2)) (n := 0) (Nat.zero_le _) rfl
  obtain ⟨sf, bf, b1, -⟩ := alw1 (f := (0, w.2.1.2.1, w.2.1.2.2.1, w.2.1.2.2.2.1, w.2.1.2.2.2.2)) (m := 0) (Nat.zero_le _) rfl
  refine ⟨((0, w.1.2.1, w.1.2.2.1, w.1.2.2.2.1, st, bg), (0, w.2.1.2.1, sf, bf, w.2.1.2.2.2.2), (0, w.2.2.1.2.1, w.2.2.1.2.2.1, w.2.2.1.2.2.2), 0, false, 0, 0, 0, -1, -1, 0), ?_, fun s hs => ?_⟩
  · unfold f_X2_becomeEmpty f_X2_beginAnew
    show (((f_X0_allWait (0, w.1.2.1, w.1.2.2.1, w.1.2.2.2.1, w.1.2.2.2.2.1, w.1.2.2.2.2.2)).bind (fun u1 => (f_X1_allWait (0, w.2.1.2.1, w.2.1.2.2.1, w.2.1.2.2.2.1, w.2.1.2.2.2.2)).bind _)).bind _ : Option HV) = _
    rw [a1, Option.bind_some, b1, Option.bind_some]
    rfl
  · refine ⟨⟨⟨Nat.zero_le _, rfl, hs 7 (by omega), fun i hi => absurd hi (Nat.not_lt_zero _)⟩, ⟨Nat.zero_le _, rfl, hs 8 (by omega), fun i hi => absurd hi (Nat.not_lt_zero _)⟩, (hs 0 (by omega)).symm, (hs 1 (by omega)).symm, (hs 5 (by omega)).symm, rfl, (hs 6 (by omega)).symm, Or.inl ⟨rfl, hs 2 (by omega)⟩⟩, LB_t ⟨Nat.zero_le _, rfl, hs 9 (by omega), fun i hi => absurd hi (Nat.not_lt_zero _)⟩, ⟨fun i hi => absurd hi (Nat.not_lt_zero _), fun i hi => absurd hi (Nat.not_lt_zero _), Or.inl (hs 1 (by omega)), 0, hs 0 (by omega), Nat.zero_le _, Or.inl ⟨hs 2 (by omega), Nat.zero_le _⟩⟩⟩
/-- one item -/
theorem itm2 {u : MV} {bt : FF} {tk : Nat} (hT : TX u bt tk) {p n m : Nat} (hp : p < tk) {hh : HV} {s : FF} (h0 : HR0 hh s n m) (hl : LB True hh.2.2.1 s 0) (hin : pIn s n m 0) (v N0 : MV × Int32) :
    (∃ (p' n' m' : Nat) (h' : HV) (s' : FF) (N' : Int32), p < p' ∧ p' ≤ tk ∧ f_X5_readItem (tvP bt tk p (-1)) hh = some (tvP bt tk p' (-1), h') ∧ s_X7_reads_27 v.1 (uwP u s (nI p) N0.2) = some (.inl (uwP u s' (nI p') N')) ∧ HR0 h' s' n' m' ∧ LB True h'.2.2.1 s' 0 ∧ pIn s' n' m' 0) ∨
    (∃ (q p' : Nat) (h' : HV) (s' : FF) (N' : Int32), q ≤ tk ∧ p' ≤ tk ∧ f_X5_readItem (tvP bt tk p (-1)) hh = some (tvP bt tk p' (nI q), h') ∧ s_X7_reads_27 v.1 (uwP u s (nI p) N0.2) = some (.inr (false, uwP u s' (nI q) N'))) := by
  have htk := hT.1
  have hn := h0.1.1
  have hm := h0.2.1.1
  have h7 : s 7 = nI n := h0.1.2.2.1
  have h8 : s 8 = nI m := h0.2.1.2.2.1
  have hcn : hh.1.1 = nI n := h0.1.2.1
  have hcm : hh.2.1.1 = nI m := h0.2.1.2.1
  have hge12 : ((12 : Int32) ≤ hh.1.1) = (12 ≤ n) := by rw [hcn]; exact le_n (a := 12) (by omega) (by omega)
  have hge10 : ((10 : Int32) ≤ hh.2.1.1) = (10 ≤ m) := by rw [hcm]; exact le_n (a := 10) (by omega) (by omega)
  obtain ⟨x, x1, x2, -⟩ := dgC (bt := bt) htk (Nat.le_of_lt hp) (-1) (tvP bt tk p (-1))
  have c1 := chC (bt := bt) htk (Nat.le_of_lt hp) (c := 43) (by decide)
  have d1 := chR0 hT (Nat.le_of_lt hp) s N0.2 43
  have href : s_X7_reads_27 v.1 (uwP u s (nI p) N0.2) = (f_X7_isAt (uwP u s (nI p) N0.2) 43 43).bind (fun u5 => if (zb u5) = 0 then (f_X7_readsElement (uwP u s (nI p) N0.2)).bind (fun u7 => if (zb u7.1) = 0 then some (.inr (false, u7.2)) else some (.inl u7.2)) else (f_X7_readsFiller (uwP u s (nI p) N0.2)).bind (fun u9 => if (zb u9.1) = 0 then some (.inr (false, u9.2)) else some (.inl u9.2))) := by
    unfold s_X7_reads_27
    show (if u.2.2.2.2.2.2.1 ≤ nI p then _ else _) = _
    rw [hT.2.1, if_neg (by rw [nI_leI (by omega) (by omega)]; omega)]
  have hfail : f_X5_fail (tvP bt tk p (-1)) (nI p) = some (tvP bt tk p (nI p)) := faiN bt tk p (nI p)
  cases hg : pDg bt tk p
  · rw [hg] at x2
    cases hq : pCh bt tk p 43
    · -- neither a digit nor a sign
      rw [hq, if_neg (by decide)] at c1
      rw [hq] at d1
      have hcls : f_X5_readItem (tvP bt tk p (-1)) hh = some (tvP bt tk p (nI p), hh) := by
        unfold f_X5_readItem
        rw [x1, Option.bind_some, x2, Option.bind_some, if_pos zb0]
        by_cases h10 : 10 ≤ m
        · rw [if_pos (by rw [hge10]; exact h10)]
          show (f_X5_fail (tvP bt tk p (-1)) (nI p)).bind _ = _
          rw [hfail, Option.bind_some]
        · rw [if_neg (by rw [hge10]; exact h10), c1, Option.bind_some, if_pos zb0]
          show (f_X5_fail (tvP bt tk p (-1)) (nI p)).bind _ = _
          rw [hfail, Option.bind_some]
      have hel : ∃ N' : Int32, f_X7_readsElement (uwP u s (nI p) N0.2) = some (false, uwP u s (nI p) N') := by
        rw [r7el]
        by_cases h12 : s 7 = 12
        · exact ⟨N0.2, if_pos h12⟩
        · refine ⟨0, ?_⟩
          have hD : dRun bt tk 4 p 0 = (0, 0) := dRun_f (by rw [hg]; decide)
          have n2 := numR hT (Nat.le_of_lt hp) (show 4 < 100 by omega) 1 1800 s N0.2 hD
          rw [if_pos rfl] at n2
          have n2' : f_X7_readsNumber (uwP u s (nI p) N0.2) 4 1 1800 = some (false, uwP u s (nI p) 0) := n2
          rw [if_neg (show ¬ (uwP u s (nI p) N0.2).1 7 = 12 from h12), n2', Option.bind_some, if_pos zb0]
      obtain ⟨N', hel⟩ := hel
      refine Or.inr ⟨p, p, hh, s, N', Nat.le_of_lt hp, Nat.le_of_lt hp, hcls, ?_⟩
      rw [href, d1, Option.bind_some, if_pos zb0, hel, Option.bind_some, if_pos zb0]
    · -- a sign
      rw [hq, if_pos rfl] at c1
      rw [hq] at d1
      by_cases h10 : m < 10
      · rcases fi2 hT hp h0 hl hin h10 N0.2 with ⟨p', f', s', N', t1, t2, t3, t4, t5, t6, t7⟩ | ⟨q, p', f', s', N', t1, t2, t3, t4⟩
        · refine Or.inl ⟨p', n, m + 1, (hh.1, f', hh.2.2), s', N', t1, t2, ?_, ?_, t5, t6, t7⟩
          · unfold f_X5_readItem
            rw [x1, Option.bind_some, x2, Option.bind_some, if_pos zb0, if_neg (by rw [hge10]; omega), c1, Option.bind_some, if_neg zb1, t3, Option.bind_some]
          · rw [href, d1, Option.bind_some, if_neg zb1, t4, Option.bind_some, if_neg zb1]
        · refine Or.inr ⟨q, p', (hh.1, f', hh.2.2), s', N', t1, t2, ?_, ?_⟩
          · unfold f_X5_readItem
            rw [x1, Option.bind_some, x2, Option.bind_some, if_pos zb0, if_neg (by rw [hge10]; omega), c1, Option.bind_some, if_neg zb1, t3, Option.bind_some]
          · rw [href, d1, Option.bind_some, if_neg zb1, t4, Option.bind_some, if_pos zb0]
      · refine Or.inr ⟨p, p, hh, s, N0.2, Nat.le_of_lt hp, Nat.le_of_lt hp, ?_, ?_⟩
        · unfold f_X5_readItem
          rw [x1, Option.bind_some, x2, Option.bind_some, if_pos zb0, if_pos (by rw [hge10]; omega)]
          show (f_X5_fail (tvP bt tk p (-1)) (nI p)).bind _ = _
          rw [hfail, Option.bind_some]
        · have hfi : f_X7_readsFiller (uwP u s (nI p) N0.2) = some (false, uwP u s (nI p) N0.2) := by
            unfold f_X7_readsFiller
            obtain rfl : m = 10 := by omega
            exact if_pos h8
          rw [href, d1, Option.bind_some, if_neg zb1, hfi, Option.bind_some, if_pos zb0]
  · -- a digit
    rw [hg] at x2
    have hns : pCh bt tk p 43 = false := by
      obtain ⟨-, h2, -⟩ := of_decide_eq_true hg
      refine decide_eq_false (fun q => h2 ?_)
      rw [q.2]
      decide
    rw [hns, if_neg (by decide)] at c1
    rw [hns] at d1
    by_cases h12 : n < 12
    · rcases el2 hT (Nat.le_of_lt hp) h0 hl hin h12 N0.2 with ⟨p', e', s', N', t1, t2, t3, t4, t5, t6, t7⟩ | ⟨q, p', e', s', N', t1, t2, t3, t4⟩
      · refine Or.inl ⟨p', n + 1, m, (e', hh.2), s', N', t1, t2, ?_, ?_, t5, t6, t7⟩
        · unfold f_X5_readItem
          rw [x1, Option.bind_some, x2, Option.bind_some, if_neg zb1, if_neg (by rw [hge12]; omega), t3, Option.bind_some]
        · rw [href, d1, Option.bind_some, if_pos zb0, t4, Option.bind_some, if_neg zb1]
      · refine Or.inr ⟨q, p', (e', hh.2), s', N', t1, t2, ?_, ?_⟩
        · unfold f_X5_readItem
          rw [x1, Option.bind_some, x2, Option.bind_some, if_neg zb1, if_neg (by rw [hge12]; omega), t3, Option.bind_some]
        · rw [href, d1, Option.bind_some, if_pos zb0, t4, Option.bind_some, if_pos zb0]
    · refine Or.inr ⟨p, p, hh, s, N0.2, Nat.le_of_lt hp, Nat.le_of_lt hp, ?_, ?_⟩
      · unfold f_X5_readItem
        rw [x1, Option.bind_some, x2, Option.bind_some, if_neg zb1, if_pos (by rw [hge12]; omega)]
        by_cases h10 : 10 ≤ m
        · rw [if_pos (by rw [hge10]; exact h10)]
          show (f_X5_fail (tvP bt tk p (-1)) (nI p)).bind _ = _
          rw [hfail, Option.bind_some]
        · rw [if_neg (by rw [hge10]; exact h10), c1, Option.bind_some, if_pos zb0]
          show (f_X5_fail (tvP bt tk p (-1)) (nI p)).bind _ = _
          rw [hfail, Option.bind_some]
      · have hel : f_X7_readsElement (uwP u s (nI p) N0.2) = some (false, uwP u s (nI p) N0.2) := by
          rw [r7el]
          obtain rfl : n = 12 := by omega
          exact if_pos h7
        rw [href, d1, Option.bind_some, if_pos zb0, hel, Option.bind_some, if_pos zb0]
/-- all items -/
theorem red2 {u : MV} {bt : FF} {tk : Nat} (hT : TX u bt tk) (v : TV) (w : HV) (z : MV) : ∀ (d p c fc fr n m : Nat) (hh : HV) (s : FF) (N0 : Int32), tk - p ≤ d → p ≤ tk → c ≤ p → d + 2 ≤ fc → d + 1 ≤ fr → HR0 hh s n m → LB True hh.2.2.1 s 0 → pIn s n m 0 →
    (∃ (c' p' n' m' : Nat) (h' : HV) (s' : FF) (N' : Int32), zloop (s_X5_readInto_16 v w) fc (nI c, tvP bt tk p (-1), hh) = some (nI c', tvP bt tk p' (-1), h') ∧ zloop (s_X7_reads_27 z) fr (uwP u s (nI p) N0) = some (true, uwP u s' (nI p') N') ∧ HR0 h' s' n' m' ∧ LB True h'.2.2.1 s' 0 ∧ pIn s' n' m' 0) ∨
    (∃ (c' p' q : Nat) (h' : HV) (s' : FF) (N' : Int32), q ≤ tk ∧ zloop (s_X5_readInto_16 v w) fc (nI c, tvP bt tk p (-1), hh) = some (nI c', tvP bt tk p' (nI q), h') ∧ zloop (s_X7_reads_27 z) fr (uwP u s (nI p) N0) = some (false, uwP u s' (nI q) N')) := by
  have htk := hT.1
  have hend : ∀ (p c fc fr n m : Nat) (hh : HV) (s : FF) (N0 : Int32), p = tk → c ≤ p → 1 ≤ fc → 1 ≤ fr → HR0 hh s n m → LB True hh.2.2.1 s 0 → pIn s n m 0 → ∃ (c' p' n' m' : Nat) (h' : HV) (s' : FF) (N' : Int32), zloop (s_X5_readInto_16 v w) fc (nI c, tvP bt tk p (-1), hh) = some (nI c', tvP bt tk p' (-1), h') ∧ zloop (s_X7_reads_27 z) fr (uwP u s (nI p) N0) = some (true, uwP u s' (nI p') N') ∧ HR0 h' s' n' m' ∧ LB True h'.2.2.1 s' 0 ∧ pIn s' n' m' 0 := by
    intro p c fc fr n m hh s N0 hp hc h1 h2 g1 g2 g3
    obtain ⟨fc, rfl⟩ : ∃ k : Nat, fc = k + 1 := ⟨fc - 1, by omega⟩
    obtain ⟨fr, rfl⟩ : ∃ k : Nat, fr = k + 1 := ⟨fr - 1, by omega⟩
    refine ⟨c, p, n, m, hh, s, N0, zl_r ?_ fc, zl_r ?_ fr, g1, g2, g3⟩
    · unfold s_X5_readInto_16
      show (if (100 : Int32) ≤ nI c then some (Sum.inr (nI c, tvP bt tk p (-1), hh)) else if nI tk ≤ nI p then some (Sum.inr (nI c, tvP bt tk p (-1), hh)) else _) = _
      by_cases hq : (100 : Int32) ≤ nI c
      · rw [if_pos hq]
      · rw [if_neg hq, if_pos (by rw [nI_leI (by omega) (by omega)]; omega)]
    · unfold s_X7_reads_27
      show (if u.2.2.2.2.2.2.1 ≤ nI p then some (Sum.inr (true, uwP u s (nI p) N0)) else _) = _
      rw [hT.2.1, if_pos (by rw [nI_leI (by omega) (by omega)]; omega)]
  intro d
  induction d with
  | zero =>
    intro p c fc fr n m hh s N0 hd hp hc h1 h2 g1 g2 g3
    exact Or.inl (hend p c fc fr n m hh s N0 (by omega) hc (by omega) (by omega) g1 g2 g3)
  | succ d ih =>
    intro p c fc fr n m hh s N0 hd hp hc h1 h2 g1 g2 g3
    by_cases hpe : p = tk
    · exact Or.inl (hend p c fc fr n m hh s N0 hpe hc (by omega) (by omega) g1 g2 g3)
    have hlt : p < tk := by omega
    obtain ⟨fc, rfl⟩ : ∃ k : Nat, fc = k + 1 + 1 := ⟨fc - 2, by omega⟩
    obtain ⟨fr, rfl⟩ : ∃ k : Nat, fr = k + 1 := ⟨fr - 1, by omega⟩
    have hcls : s_X5_readInto_16 v w (nI c, tvP bt tk p (-1), hh) = (f_X5_readItem (tvP bt tk p (-1)) hh).bind (fun u5 => some (Sum.inl ((nI c + 1), u5.1, u5.2))) := by
      unfold s_X5_readInto_16
      show (if (100 : Int32) ≤ nI c then _ else if nI tk ≤ nI p then _ else if (-1 : Int32) = -1 then _ else _) = _
      rw [if_neg (show ¬ (100 : Int32) ≤ nI c by show ¬ nI 100 ≤ nI c; rw [nI_leI (by omega) (by omega)]; omega), if_neg (by rw [nI_leI (by omega) (by omega)]; omega), if_pos rfl]
    rcases itm2 hT hlt g1 g2 g3 (z, N0) (z, N0) with ⟨p', n', m', h', s', N', t1, t2, t3, t4, t5, t6, t7⟩ | ⟨q, p', h', s', N', t1, t2, t3, t4⟩
    · have hc1 : zloop (s_X5_readInto_16 v w) (fc + 1 + 1) (nI c, tvP bt tk p (-1), hh) = zloop (s_X5_readInto_16 v w) (fc + 1) (nI (c + 1), tvP bt tk p' (-1), h') := zl_l (by rw [hcls, t3, Option.bind_some, nI_1]) (fc + 1)
      have hc2 : zloop (s_X7_reads_27 z) (fr + 1) (uwP u s (nI p) N0) = zloop (s_X7_reads_27 z) fr (uwP u s' (nI p') N') := zl_l t4 fr
      rw [hc1, hc2]
      exact ih p' (c + 1) (fc + 1) fr n' m' h' s' N' (by omega) t2 (by omega) (by omega) (by omega) t5 t6 t7
    · have hc1 : zloop (s_X5_readInto_16 v w) (fc + 1 + 1) (nI c, tvP bt tk p (-1), hh) = zloop (s_X5_readInto_16 v w) (fc + 1) (nI (c + 1), tvP bt tk p' (nI q), h') := zl_l (by rw [hcls, t3, Option.bind_some, nI_1]) (fc + 1)
      refine Or.inr ⟨c + 1, p', q, h', s', N', t1, ?_, zl_r t4 fr⟩
      rw [hc1]
      refine zl_r ?_ fc
      unfold s_X5_readInto_16
      show (if (100 : Int32) ≤ nI (c + 1) then some (Sum.inr (nI (c + 1), tvP bt tk p' (nI q), h')) else if nI tk ≤ nI p' then some (Sum.inr (nI (c + 1), tvP bt tk p' (nI q), h')) else if nI q = -1 then _ else some (Sum.inr (nI (c + 1), tvP bt tk p' (nI q), h'))) = _
      by_cases w1 : (100 : Int32) ≤ nI (c + 1)
      · rw [if_pos w1]
      · rw [if_neg w1]
        by_cases w2 : nI tk ≤ nI p'
        · rw [if_pos w2]
        · rw [if_neg w2, if_neg (of_eq_false (ne1_n (by omega)))]
theorem zer7 (u : MV) : ∃ s0 : FF, zloop (s_X7_reads_2 u) 4096 (0, u.1) = some (nI 220, s0) ∧ ∀ j : Nat, j < 220 → s0 j = 0 := by
  have h1 := zlF' (f := s_X7_reads_2 u) (fun a (x : FF) => (nI a, x)) (fun x => (nI 220, x)) (fun a x => upd x (0 + a) 0) 220
    (fun a x ha => by
      unfold s_X7_reads_2
      show (if (220 : Int32) ≤ nI a then _ else if zin (nI a) 220 = true then _ else _) = _
      rw [if_neg (show ¬ (220 : Int32) ≤ nI a by show ¬ nI 220 ≤ nI a; rw [nI_leI (by omega) (by omega)]; omega), if_pos (zin_n ha (by omega)), cl_n (by omega), nI_1, Nat.zero_add])
    (fun x => by
      unfold s_X7_reads_2
      show (if (220 : Int32) ≤ nI 220 then _ else _) = _
      rw [if_pos (by decide)]) 220 0 u.1 4096 (by omega) (by omega)
  obtain ⟨s0, hs0⟩ : ∃ s0 : FF, s0 = pF (fun a (x : FF) => upd x (0 + a) 0) 220 0 u.1 := ⟨_, rfl⟩
  rw [← hs0] at h1
  refine ⟨s0, h1, fun j hj => ?_⟩
  have h3 := (cpg 0 (fun _ => 0) 220 u.1).1 j hj
  rw [Nat.zero_add] at h3
  rw [hs0]
  exact h3
theorem A_parse : zA_parse Rel := by
  intro v u hR
  obtain ⟨hH, hS, tk, tk1, tk2, tk3, tk4⟩ := hR
  obtain ⟨bt, hbt⟩ : ∃ bt : FF, bt = v.2.2.2.2.1 := ⟨_, rfl⟩
  obtain ⟨c1, hc1, hc2⟩ := cps7 u.1 u.2.2.1
  obtain ⟨U, hU⟩ : ∃ U : MV, U = (u.1, u.2.1, c1, u.2.2.2.1, u.2.2.2.2.1, u.2.2.2.2.2.1, u.2.2.2.2.2.2.1, 0, u.2.2.2.2.2.2.2.2.1, u.2.2.2.2.2.2.2.2.2.1, u.2.2.2.2.2.2.2.2.2.2) := ⟨_, rfl⟩
  have hT : TX U bt tk := by
    rw [hU, hbt]
    exact ⟨tk1, tk3, tk4⟩
  obtain ⟨s0, hs0, hs1⟩ := zer7 U
  obtain ⟨h0, he0, he1⟩ := emp2 v.2.1
  obtain ⟨w1, w2, w3⟩ := he1 s0 hs1
  have hcls : f_X5_readInto v.2.2.2.2 v.2.1 = (zloop (s_X5_readInto_16 (tvP bt tk 0 (-1)) h0) 4096 (nI 0, tvP bt tk 0 (-1), h0)).bind (fun u6 => some (u6.2.1.2.2.2, u6.2.1, u6.2.2)) := by
    unfold f_X5_readInto
    rw [he0, Option.bind_some, tk2, ← hbt]
    rfl
  obtain ⟨z, hz⟩ : ∃ z : MV, z = uwP U s0 0 U.2.2.2.2.2.2.2.2.2.1 := ⟨_, rfl⟩
  have href : f_X7_reads U = zloop (s_X7_reads_27 z) 4096 (uwP U s0 (nI 0) U.2.2.2.2.2.2.2.2.2.1) := by
    unfold f_X7_reads
    rw [hs0, Option.bind_some, hz]
    rfl
  have hpar : f_X7_parse u = (f_X7_reads U).bind (fun u2 => (f_X7_copies u2.2.1 u2.2.2.2.2.1).bind (fun u3 => (f_X7_copies u2.2.2.2.1 u2.2.1).bind (fun u4 =>
      if (zb u2.1) = 0 then some (((-10) - u2.2.2.2.2.2.2.2.2.2.1), (u4, u2.2.2.1, u2.2.2.2.1, u3, u2.2.2.2.2.2))
      else (f_X7_save (u4, u2.2.2.1, u2.2.2.2.1, u3, u2.2.2.2.2.2)).bind (fun u6 => (f_X7_copies u6.2.2.2.1 u6.1).bind (fun u7 => some ((u7 7), (u7, u6.2))))))) := by
    unfold f_X7_parse
    rw [hc1, Option.bind_some, hU]
  rcases red2 hT (tvP bt tk 0 (-1)) h0 z tk 0 0 4096 4096 0 0 h0 s0 U.2.2.2.2.2.2.2.2.2.1 (by omega) (Nat.zero_le _) (Nat.le_refl _) (by omega) (by omega) w1 w2 w3 with ⟨c', p', n', m', h', s', N', t1, t2, t3, t4, t5⟩ | ⟨c', p', q, h', s', N', t0, t1, t2⟩
  · -- it is read
    obtain ⟨c3, hc3, hc4⟩ := cps7 s' U.2.2.2.1
    obtain ⟨c5, hc5, hc6⟩ := cps7 c1 s'
    have hnow : HR v.1 c5 := HR_cg hH (fun j hj => (hc6 j hj).trans (hc2 j hj))
    have hR2 : Rel (v.1, h', v.2.2.1, v.2.2.2.1, tvP bt tk p' (-1)) (c5, u.2.1, c1, c3, u.2.2.2.2.1, u.2.2.2.2.2.1, u.2.2.2.2.2.2.1, 0, nI p', N', u.2.2.2.2.2.2.2.2.2.2) := by
      refine ⟨hnow, hS, tk, tk1, rfl, tk3, ?_⟩
      rw [hbt]
      exact tk4
    obtain ⟨q', P', cc, k1, k2, k3⟩ := sav2 hR2
    have k1' : f_X6_save (v.1, h', v.2.2.1, v.2.2.2.1, tvP bt tk p' (-1)) = some (v.1, h', q', nI cc, tvP bt tk p' (-1)) := k1
    have k2' : f_X7_save (c5, u.2.1, c1, c3, u.2.2.2.2.1, u.2.2.2.2.2.1, u.2.2.2.2.2.2.1, 0, nI p', N', u.2.2.2.2.2.2.2.2.2.2) = some (c5, P', c1, c3, nI cc, u.2.2.2.2.2.1, u.2.2.2.2.2.2.1, 0, nI p', N', u.2.2.2.2.2.2.2.2.2.2) := k2
    obtain ⟨r, y1, y2⟩ := cpy2 v.1 h'
    obtain ⟨c7, hc7, hc8⟩ := cps7 c3 c5
    have hnew : HR r c7 := HR_cg (HE_R y2 ⟨n', m', 0, t3, t4.2.2.2 trivial, t5⟩) (fun j hj => (hc8 j hj).trans (hc4 j hj))
    have hr1 : r.1.1 = nI n' := y2.1.1.trans t3.1.2.1
    have hc77 : c7 7 = nI n' := (hc8 7 (by omega)).trans ((hc4 7 (by omega)).trans t3.1.2.2.1)
    refine ⟨nI n', (r, h', q', nI cc, tvP bt tk p' (-1)), (c7, P', c1, c3, nI cc, u.2.2.2.2.2.1, u.2.2.2.2.2.2.1, 0, nI p', N', u.2.2.2.2.2.2.2.2.2.2), ?_, ?_, hnew, k3, tk, tk1, rfl, tk3, ?_⟩
    · unfold f_X6_parse
      rw [hcls, t1, Option.bind_some, Option.bind_some]
      show (if (-1 : Int32) = -1 then (f_X6_save (v.1, h', v.2.2.1, v.2.2.2.1, tvP bt tk p' (-1))).bind _ else _) = _
      rw [if_pos rfl, k1', Option.bind_some]
      show (f_X2_copyFrom v.1 h').bind _ = _
      rw [y1, Option.bind_some, hr1]
    · rw [hpar, href, t2, Option.bind_some]
      show (f_X7_copies s' U.2.2.2.1).bind (fun u3 => (f_X7_copies U.2.2.1 s').bind (fun u4 => if (zb true) = 0 then _ else (f_X7_save (u4, U.2.1, U.2.2.1, u3, U.2.2.2.2.1, U.2.2.2.2.2.1, U.2.2.2.2.2.2.1, U.2.2.2.2.2.2.2.1, nI p', N', U.2.2.2.2.2.2.2.2.2.2)).bind _)) = _
      rw [hc3, Option.bind_some]
      have hU2 : U.2.2.1 = c1 := by rw [hU]
      rw [hU2, hc5, Option.bind_some, if_neg zb1]
      have k2'' : f_X7_save (c5, U.2.1, c1, c3, U.2.2.2.2.1, U.2.2.2.2.2.1, U.2.2.2.2.2.2.1, U.2.2.2.2.2.2.2.1, nI p', N', U.2.2.2.2.2.2.2.2.2.2) = some (c5, P', c1, c3, nI cc, u.2.2.2.2.2.1, u.2.2.2.2.2.2.1, 0, nI p', N', u.2.2.2.2.2.2.2.2.2.2) := by
        rw [hU]
        exact k2'
      rw [k2'', Option.bind_some]
      show (f_X7_copies c3 c5).bind _ = _
      rw [hc7, Option.bind_some, hc77]
    · rw [hbt]
      exact tk4
  · -- a mistake
    obtain ⟨c3, hc3, hc4⟩ := cps7 s' U.2.2.2.1
    obtain ⟨c5, hc5, hc6⟩ := cps7 c1 s'
    have hnow : HR v.1 c5 := HR_cg hH (fun j hj => (hc6 j hj).trans (hc2 j hj))
    refine ⟨-10 - nI q, (v.1, h', v.2.2.1, v.2.2.2.1, tvP bt tk p' (nI q)), (c5, u.2.1, c1, c3, u.2.2.2.2.1, u.2.2.2.2.2.1, u.2.2.2.2.2.2.1, 0, nI q, N', u.2.2.2.2.2.2.2.2.2.2), ?_, ?_, hnow, hS, tk, tk1, rfl, tk3, ?_⟩
    · unfold f_X6_parse
      rw [hcls, t1, Option.bind_some, Option.bind_some]
      show (if nI q = -1 then _ else some (((-10) - nI q), (v.1, h', v.2.2.1, v.2.2.2.1, tvP bt tk p' (nI q)))) = _
      rw [if_neg (of_eq_false (ne1_n (by omega)))]
    · rw [hpar, href, t2, Option.bind_some]
      show (f_X7_copies s' U.2.2.2.1).bind (fun u3 => (f_X7_copies U.2.2.1 s').bind (fun u4 => if (zb false) = 0 then some (((-10) - nI q), (u4, U.2.1, U.2.2.1, u3, U.2.2.2.2.1, U.2.2.2.2.2.1, U.2.2.2.2.2.2.1, U.2.2.2.2.2.2.2.1, nI q, N', U.2.2.2.2.2.2.2.2.2.2)) else _)) = _
      rw [hc3, Option.bind_some]
      have hU2 : U.2.2.1 = c1 := by rw [hU]
      rw [hU2, hc5, Option.bind_some, if_pos zb0, hU]
    · rw [hbt]
      exact tk4
