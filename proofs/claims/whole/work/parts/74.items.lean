/-! The pure part: numbers, elements and fillers of a text. -/
theorem faiN (bt : FF) (tk x : Nat) (q : Int32) : f_X5_fail (tvP bt tk x (-1)) q = some (tvP bt tk x q) := by
  unfold f_X5_fail
  show (if (-1 : Int32) = -1 then some (bt, nI tk, nI x, q) else _) = _
  rw [if_pos rfl]
  rfl
theorem numC {bt : FF} {tk : Nat} (htk : tk ≤ 100) {p mx : Nat} (hp : p ≤ tk) (hmx : mx < 100) (lo hi : Int32) {N : Int32} {d : Nat} (hD : dRun bt tk mx p 0 = (d, N)) : f_X5_readNumber (tvP bt tk p (-1)) (nI mx) lo hi = some (N, tvP bt tk (p + d) (if d = 0 then nI p else if pDg bt tk (p + d) = true then nI (p + d) else if N < lo ∨ hi < N then nI p else -1)) := by
  have hr := runC (bt := bt) htk (v := tvP bt tk p (-1)) rfl rfl mx hmx lo hi (nI p) mx p 0 0 4096 (by omega) (by omega) hp
  rw [hD, Nat.zero_add] at hr
  have hpd : p + d ≤ tk := by
    have := dRun_le bt tk mx p 0 hp
    rw [hD] at this
    exact this
  obtain ⟨x, x1, x2, -⟩ := dgC (bt := bt) htk hpd (-1) (tvP bt tk (p + d) (-1))
  unfold f_X5_readNumber
  show (zloop (s_X5_readNumber_12 (tvP bt tk p (-1)) (nI mx) lo hi (nI p)) 4096 (0, nI 0, nI p)).bind _ = _
  rw [hr, Option.bind_some]
  show (if nI (p + d) = nI p then (f_X5_fail (tvP bt tk (p + d) (-1)) (nI (p + d))).bind (fun u8 => some (N, u8)) else (f_X5_here (tvP bt tk (p + d) (-1))).bind (fun u9 => (f_X5_isDigit (tvP bt tk (p + d) (-1)) u9).bind (fun u10 => if (zb u10) = 0 then (if N < lo then (f_X5_fail (tvP bt tk (p + d) (-1)) (nI p)).bind (fun u13 => some (N, u13)) else if N ≤ hi then some (N, tvP bt tk (p + d) (-1)) else (f_X5_fail (tvP bt tk (p + d) (-1)) (nI p)).bind (fun u15 => some (N, u15))) else (f_X5_fail (tvP bt tk (p + d) (-1)) (nI (p + d))).bind (fun u16 => some (N, u16))))) = _
  by_cases h0 : d = 0
  · subst h0
    rw [if_pos (show nI (p + 0) = nI p from rfl), if_pos rfl, faiN, Option.bind_some]
    rfl
  · rw [if_neg (by rw [nI_eq (by omega) (by omega)]; omega), if_neg h0, x1, Option.bind_some, x2, Option.bind_some]
    cases hg : pDg bt tk (p + d)
    · rw [if_pos zb0, if_neg (show ¬ (false = true) by decide)]
      by_cases h1 : N < lo
      · rw [if_pos h1, if_pos (Or.inl h1), faiN, Option.bind_some]
      · rw [if_neg h1]
        by_cases h2 : N ≤ hi
        · rw [if_pos h2, if_neg (fun q => q.elim h1 (Int32.not_lt.mpr h2))]
        · rw [if_neg h2, if_pos (Or.inr (Int32.not_le.mp h2)), faiN, Option.bind_some]
    · rw [if_neg zb1, if_pos rfl, faiN, Option.bind_some]
theorem numR {u : MV} {bt : FF} {tk : Nat} (hT : TX u bt tk) {p mx : Nat} (hp : p ≤ tk) (hmx : mx < 100) (lo hi : Int32) (s : FF) (N0 : Int32) {N : Int32} {d : Nat} (hD : dRun bt tk mx p 0 = (d, N)) : f_X7_readsNumber (uwP u s (nI p) N0) (nI mx) lo hi = some (if d = 0 then (false, uwP u s (nI p) N) else if pDg bt tk (p + d) = true then (false, uwP u s (nI (p + d)) N) else if N < lo ∨ hi < N then (false, uwP u s (nI p) N) else (true, uwP u s (nI (p + d)) N)) := by
  have htk := hT.1
  have hr := runR hT s 0 (nI p) mx p (by omega) hmx lo hi mx p 0 0 4096 (by omega) (by omega) (by omega) hp
  rw [hD] at hr
  have hpd : p + d ≤ tk := by
    have := dRun_le bt tk mx p 0 hp
    rw [hD] at this
    exact this
  have x2 := dgR hT hpd s N
  unfold f_X7_readsNumber
  show (zloop (s_X7_readsNumber_11 (uwP u s (nI p) 0) (nI mx) lo hi (nI p)) 4096 (nI p, 0)).bind _ = _
  rw [hr, Option.bind_some]
  show (if nI (p + d) = nI p then some (false, uwP u s (nI (p + d)) N) else (f_X7_isAt (uwP u s (nI (p + d)) N) 48 57).bind (fun u7 => if (zb u7) = 0 then (f_X7_in N lo hi).bind (fun u9 => if (zb u9) = 0 then some (u9, uwP u s (nI p) N) else some (u9, uwP u s (nI (p + d)) N)) else some (false, uwP u s (nI (p + d)) N))) = _
  by_cases h0 : d = 0
  · subst h0
    rw [if_pos (show nI (p + 0) = nI p from rfl), if_pos rfl]
    rfl
  · rw [if_neg (by rw [nI_eq (by omega) (by omega)]; omega), if_neg h0, x2, Option.bind_some]
    cases hg : pDg bt tk (p + d)
    · rw [if_pos zb0, if_neg (show ¬ (false = true) by decide)]
      by_cases h1 : N < lo ∨ hi < N
      · rw [if_pos h1, in7f h1, Option.bind_some, if_pos zb0]
      · rw [if_neg h1, in7t (fun q => h1 (Or.inl q)) (fun q => h1 (Or.inr q)), Option.bind_some, if_neg zb1]
    · rw [if_neg zb1, if_pos rfl]
theorem num2 {u : MV} {bt : FF} {tk : Nat} (hT : TX u bt tk) {p mx : Nat} (hp : p ≤ tk) (hmx : mx < 100) (lo hi : Int32) (s : FF) (N0 : Int32) : ∃ (N : Int32) (d : Nat), p + d ≤ tk ∧
    ((∃ q : Nat, q ≤ tk ∧ f_X5_readNumber (tvP bt tk p (-1)) (nI mx) lo hi = some (N, tvP bt tk (p + d) (nI q)) ∧ f_X7_readsNumber (uwP u s (nI p) N0) (nI mx) lo hi = some (false, uwP u s (nI q) N)) ∨
     (1 ≤ d ∧ ¬ N < lo ∧ ¬ hi < N ∧ f_X5_readNumber (tvP bt tk p (-1)) (nI mx) lo hi = some (N, tvP bt tk (p + d) (-1)) ∧ f_X7_readsNumber (uwP u s (nI p) N0) (nI mx) lo hi = some (true, uwP u s (nI (p + d)) N))) := by
  obtain ⟨d, N, hD⟩ : ∃ (d : Nat) (N : Int32), dRun bt tk mx p 0 = (d, N) := ⟨_, _, rfl⟩
  have hpd : p + d ≤ tk := by
    have := dRun_le bt tk mx p 0 hp
    rw [hD] at this
    exact this
  have c1 := numC hT.1 hp hmx lo hi hD
  have c2 := numR hT hp hmx lo hi s N0 hD
  refine ⟨N, d, hpd, ?_⟩
  by_cases h0 : d = 0
  · rw [if_pos h0] at c1 c2
    exact Or.inl ⟨p, hp, c1, c2⟩
  · rw [if_neg h0] at c1 c2
    by_cases h1 : pDg bt tk (p + d) = true
    · rw [if_pos h1] at c1 c2
      exact Or.inl ⟨p + d, hpd, c1, c2⟩
    · rw [if_neg h1] at c1 c2
      by_cases h2 : N < lo ∨ hi < N
      · rw [if_pos h2] at c1 c2
        exact Or.inl ⟨p, hp, c1, c2⟩
      · rw [if_neg h2] at c1 c2
        exact Or.inr ⟨by omega, fun q => h2 (Or.inl q), fun q => h2 (Or.inr q), c1, c2⟩
def c5tail (t : TV) (w : EV) (l tm : Int32) : Option (TV × EV) :=
    (f_X5_take t 114).bind (fun u4 =>
    if (zb u4.1) = 0 then
      (f_X5_takeSemicolon u4.2).bind (fun u6 =>
      if (zb u6.1) = 0 then some (u6.2, w)
      else (f_X0_add w l tm 5).bind (fun u8 => some (u6.2, u8)))
    else
      (f_X5_readNumber u4.2 1 0 9).bind (fun u9 =>
      (f_X5_takeSemicolon u9.2).bind (fun u10 =>
      if (zb u10.1) = 0 then some (u10.2, w)
      else (f_X0_add w l tm u9.1).bind (fun u12 => some (u10.2, u12)))))
theorem c5el (v : TV) (w : EV) : f_X5_readElement v w = (f_X5_readNumber v 4 1 1800).bind (fun u1 => (f_X5_take u1.2 64).bind (fun u2 =>
    if (zb u2.1) = 0 then c5tail u2.2 w u1.1 (-1) else (f_X5_readNumber u2.2 4 0 3599).bind (fun u13 => c5tail u13.2 w u1.1 u13.1))) := rfl
def r7tail (w : MV) (l tm : Int32) : Option (Bool × MV) :=
        (f_X7_takes w 114).bind (fun u6 =>
        if (zb u6.1) = 0 then
          (f_X7_putElement u6.2 l tm 5).bind (fun u8 => (f_X7_takes u8 59).bind (fun u9 => some (u9.1, u9.2)))
        else
          (f_X7_isAt u6.2 48 57).bind (fun u10 =>
          if (zb u10) = 0 then some (false, u6.2)
          else if zin u6.2.2.2.2.2.2.2.2.2.1 100 = true then
            (f_X7_putElement (uwP u6.2 u6.2.1 (u6.2.2.2.2.2.2.2.2.2.1 + 1) u6.2.2.2.2.2.2.2.2.2.2.1) l tm ((u6.2.2.2.2.2.2.1 u6.2.2.2.2.2.2.2.2.2.1.toNatClampNeg) - 48)).bind (fun u13 => (f_X7_takes u13 59).bind (fun u14 => some (u14.1, u14.2)))
          else none))
theorem r7el (v : MV) : f_X7_readsElement v = if (v.1 7) = 12 then some (false, v) else (f_X7_readsNumber v 4 1 1800).bind (fun u2 =>
    if (zb u2.1) = 0 then some (false, u2.2)
    else (f_X7_takes u2.2 64).bind (fun u4 =>
      if (zb u4.1) = 0 then r7tail u4.2 u2.2.2.2.2.2.2.2.2.2.2.1 (-1)
      else (f_X7_readsNumber u4.2 4 0 3599).bind (fun u15 =>
        if (zb u15.1) = 0 then some (false, u15.2) else r7tail u15.2 u2.2.2.2.2.2.2.2.2.2.2.1 u15.2.2.2.2.2.2.2.2.2.2.1))) := rfl
theorem c5tE {t : TV} (he : t.2.2.2 ≠ -1) (w : EV) (l tm : Int32) : c5tail t w l tm = some (t, w) := by
  unfold c5tail
  rw [takE he, Option.bind_some, if_pos zb0, semE he, Option.bind_some, if_pos zb0]
theorem pCh_lt {bt : FF} {tk p : Nat} {c : Int32} (h : pCh bt tk p c = true) : p < tk := (of_decide_eq_true h).1
/-- a digit is no semicolon -/
theorem dg_sem {bt : FF} {tk p : Nat} (h : pDg bt tk p = true) : pCh bt tk p 59 = false := by
  obtain ⟨-, -, h3⟩ := of_decide_eq_true h
  refine decide_eq_false (fun q => h3 ?_)
  rw [q.2]
  decide
theorem tail2 {u : MV} {bt : FF} {tk : Nat} (hT : TX u bt tk) {p n m : Nat} (hp : p ≤ tk) {hh : HV} {s : FF} (h0 : HR0 hh s n m) (hl : LB True hh.2.2.1 s 0) (hin : pIn s n m 0) (hn : n < 12) {l tm : Int32} (hl1 : ∃ l' : Nat, 1 ≤ l' ∧ l' ≤ 3600 ∧ l = nI l') (ht1 : tm = -1 ∨ ∃ t' : Nat, t' ≤ 3599 ∧ tm = nI t') (N0 : Int32) :
    (∃ (p' : Nat) (e' : EV) (s' : FF), p < p' ∧ p' ≤ tk ∧ c5tail (tvP bt tk p (-1)) hh.1 l tm = some (tvP bt tk p' (-1), e') ∧ r7tail (uwP u s (nI p) N0) l tm = some (true, uwP u s' (nI p') N0) ∧ HR0 (e', hh.2) s' (n + 1) m ∧ LB True hh.2.2.1 s' 0 ∧ pIn s' (n + 1) m 0) ∨
    (∃ (q p' : Nat) (e' : EV) (s' : FF), q ≤ tk ∧ p' ≤ tk ∧ c5tail (tvP bt tk p (-1)) hh.1 l tm = some (tvP bt tk p' (nI q), e') ∧ r7tail (uwP u s (nI p) N0) l tm = some (false, uwP u s' (nI q) N0)) := by
  have htk := hT.1
  have c1 := chC (bt := bt) htk hp (c := 114) (by decide)
  have c2 := chR hT hp s N0 114
  cases hc : pCh bt tk p 114
  · rw [hc, if_neg (by decide)] at c1 c2
    obtain ⟨e', s', k1, k2, -, -, k5, k6, k7, -⟩ := ade2 (u := uwP u s (nI p) N0) (r := 5) h0 hl hin hn hl1 ht1
    have k2' : f_X7_putElement (uwP u s (nI p) N0) l tm 5 = some (uwP u s' (nI p) N0) := k2
    have c3 := semC (bt := bt) htk hp
    have c4 := chR hT hp s' N0 59
    cases hq : pCh bt tk p 59
    · rw [hq, if_neg (by decide)] at c3 c4
      refine Or.inr ⟨p, p, hh.1, s', hp, hp, ?_, ?_⟩
      · unfold c5tail
        rw [c1, Option.bind_some, if_pos zb0, c3, Option.bind_some, if_pos zb0]
      · unfold r7tail
        rw [c2, Option.bind_some, if_pos zb0, k2', Option.bind_some, c4, Option.bind_some]
    · have hlt := pCh_lt hq
      rw [hq, if_pos rfl] at c3 c4
      refine Or.inl ⟨p + 1, e', s', by omega, by omega, ?_, ?_, k5, k6, k7⟩
      · unfold c5tail
        rw [c1, Option.bind_some, if_pos zb0, c3, Option.bind_some, if_neg zb1, k1, Option.bind_some]
      · unfold r7tail
        rw [c2, Option.bind_some, if_pos zb0, k2', Option.bind_some, c4, Option.bind_some]
  · have hlt := pCh_lt hc
    rw [hc, if_pos rfl] at c1 c2
    have d1 := dgR hT (show p + 1 ≤ tk by omega) s N0
    cases hg : pDg bt tk (p + 1)
    · have hD : dRun bt tk 1 (p + 1) 0 = (0, 0) := dRun_f (by rw [hg]; decide)
      have n1 := numC (bt := bt) htk (show p + 1 ≤ tk by omega) (show 1 < 100 by omega) 0 9 hD
      rw [if_pos rfl] at n1
      have n1' : f_X5_readNumber (tvP bt tk (p + 1) (-1)) 1 0 9 = some (0, tvP bt tk (p + 1) (nI (p + 1))) := n1
      have hne : (tvP bt tk (p + 1) (nI (p + 1))).2.2.2 ≠ -1 := fun q => of_eq_false (ne1_n (a := p + 1) (by omega)) q
      refine Or.inr ⟨p + 1, p + 1, hh.1, s, by omega, by omega, ?_, ?_⟩
      · unfold c5tail
        rw [c1, Option.bind_some, if_neg zb1, n1', Option.bind_some, semE hne, Option.bind_some, if_pos zb0]
      · unfold r7tail
        rw [c2, Option.bind_some, if_neg zb1, d1, hg, Option.bind_some, if_pos zb0]
    · have hlt2 := pDg_lt hg
      have hD : dRun bt tk 1 (p + 1) 0 = (1, bt (p + 1) - 48) := by
        rw [dRun_t hg]
        show (0 + 1, (0 : Int32) * 10 + (bt (p + 1) - 48)) = _
        rw [Int32.zero_mul, Int32.zero_add]
      have n1 := numC (bt := bt) htk (show p + 1 ≤ tk by omega) (show 1 < 100 by omega) 0 9 hD
      rw [if_neg (by decide)] at n1
      have hr : ¬ (bt (p + 1) - 48 < 0 ∨ 9 < bt (p + 1) - 48) := by
        obtain ⟨-, b1, b2⟩ := of_decide_eq_true hg
        have b1' : ¬ bt (p + 1) < nI 48 := b1
        have b2' : ¬ nI 57 < bt (p + 1) := b2
        obtain ⟨x, x1, x2⟩ := nI_of (x := bt (p + 1)) (by
          show ¬ bt (p + 1) < nI 0
          rw [Int32.lt_iff_toInt_lt, nI_toInt (by omega)] at b1' ⊢
          omega)
        rw [x2, nI_ltI x1 (by omega)] at b1'
        rw [x2, nI_ltI (by omega) x1] at b2'
        have b3 : bt (p + 1) - 48 = nI (x - 48) := by
          rw [x2]
          exact pk_sub (b := 48) (by omega)
        rw [b3]
        rintro (q | q)
        · exact of_eq_false (neg_n (a := x - 48) (by omega)) q
        · have q' : nI 9 < nI (x - 48) := q
          rw [nI_ltI (by omega) (by omega)] at q'
          omega
      obtain ⟨e', s', k1, k2, -, -, k5, k6, k7, -⟩ := ade2 (u := uwP u s (nI (p + 2)) N0) (r := bt (p + 1) - 48) h0 hl hin hn hl1 ht1
      have k2' : f_X7_putElement (uwP u s (nI (p + 2)) N0) l tm (bt (p + 1) - 48) = some (uwP u s' (nI (p + 2)) N0) := k2
      have href : r7tail (uwP u s (nI p) N0) l tm = (f_X7_takes (uwP u s' (nI (p + 2)) N0) 59).bind (fun u14 => some (u14.1, u14.2)) := by
        unfold r7tail
        rw [c2, Option.bind_some, if_neg zb1, d1, hg, Option.bind_some, if_neg zb1]
        show (if zin (nI (p + 1)) 100 = true then (f_X7_putElement (uwP u s (nI (p + 1) + 1) N0) l tm ((u.2.2.2.2.2.1 (nI (p + 1)).toNatClampNeg) - 48)).bind _ else _) = _
        rw [if_pos (zin_n (by omega) (by omega)), cl_n (by omega), ← hT.2.2 (p + 1) hlt2, nI_1, k2', Option.bind_some]
      have c4 := chR hT (show p + 2 ≤ tk by omega) s' N0 59
      cases hg2 : pDg bt tk (p + 2)
      · rw [hg2, if_neg (by decide), if_neg hr] at n1
        have n1' : f_X5_readNumber (tvP bt tk (p + 1) (-1)) 1 0 9 = some (bt (p + 1) - 48, tvP bt tk (p + 2) (-1)) := n1
        have c3 := semC (bt := bt) htk (show p + 2 ≤ tk by omega)
        cases hq : pCh bt tk (p + 2) 59
        · rw [hq, if_neg (by decide)] at c3 c4
          refine Or.inr ⟨p + 2, p + 2, hh.1, s', by omega, by omega, ?_, ?_⟩
          · unfold c5tail
            rw [c1, Option.bind_some, if_neg zb1, n1', Option.bind_some, c3, Option.bind_some, if_pos zb0]
          · rw [href, c4, Option.bind_some]
        · have hlt3 := pCh_lt hq
          rw [hq, if_pos rfl] at c3 c4
          refine Or.inl ⟨p + 3, e', s', by omega, by omega, ?_, ?_, k5, k6, k7⟩
          · unfold c5tail
            rw [c1, Option.bind_some, if_neg zb1, n1', Option.bind_some, c3, Option.bind_some, if_neg zb1, k1, Option.bind_some]
          · rw [href, c4, Option.bind_some]
      · rw [hg2, if_pos rfl] at n1
        have n1' : f_X5_readNumber (tvP bt tk (p + 1) (-1)) 1 0 9 = some (bt (p + 1) - 48, tvP bt tk (p + 2) (nI (p + 2))) := n1
        have hne : (tvP bt tk (p + 2) (nI (p + 2))).2.2.2 ≠ -1 := fun q => of_eq_false (ne1_n (a := p + 2) (by omega)) q
        rw [dg_sem hg2, if_neg (by decide)] at c4
        refine Or.inr ⟨p + 2, p + 2, hh.1, s', by omega, by omega, ?_, ?_⟩
        · unfold c5tail
          rw [c1, Option.bind_some, if_neg zb1, n1', Option.bind_some, semE hne, Option.bind_some, if_pos zb0]
        · rw [href, c4, Option.bind_some]
theorem el2 {u : MV} {bt : FF} {tk : Nat} (hT : TX u bt tk) {p n m : Nat} (hp : p ≤ tk) {hh : HV} {s : FF} (h0 : HR0 hh s n m) (hl : LB True hh.2.2.1 s 0) (hin : pIn s n m 0) (hn : n < 12) (N0 : Int32) :
    (∃ (p' : Nat) (e' : EV) (s' : FF) (N' : Int32), p < p' ∧ p' ≤ tk ∧ f_X5_readElement (tvP bt tk p (-1)) hh.1 = some (tvP bt tk p' (-1), e') ∧ f_X7_readsElement (uwP u s (nI p) N0) = some (true, uwP u s' (nI p') N') ∧ HR0 (e', hh.2) s' (n + 1) m ∧ LB True hh.2.2.1 s' 0 ∧ pIn s' (n + 1) m 0) ∨
    (∃ (q p' : Nat) (e' : EV) (s' : FF) (N' : Int32), q ≤ tk ∧ p' ≤ tk ∧ f_X5_readElement (tvP bt tk p (-1)) hh.1 = some (tvP bt tk p' (nI q), e') ∧ f_X7_readsElement (uwP u s (nI p) N0) = some (false, uwP u s' (nI q) N')) := by
  have htk := hT.1
  have h7 : s 7 = nI n := h0.1.2.2.1
  have h12 : ¬ (uwP u s (nI p) N0).1 7 = 12 := by
    show ¬ s 7 = nI 12
    rw [h7, nI_eq (by omega) (by omega)]; omega
  obtain ⟨N, d, hpd, hnum⟩ := num2 hT hp (show 4 < 100 by omega) 1 1800 s N0
  rcases hnum with ⟨q, hq, c1, c2⟩ | ⟨hd, r1, r2, c1, c2⟩
  · have c1' : f_X5_readNumber (tvP bt tk p (-1)) 4 1 1800 = some (N, tvP bt tk (p + d) (nI q)) := c1
    have c2' : f_X7_readsNumber (uwP u s (nI p) N0) 4 1 1800 = some (false, uwP u s (nI q) N) := c2
    have hne : (tvP bt tk (p + d) (nI q)).2.2.2 ≠ -1 := fun z => of_eq_false (ne1_n (a := q) (by omega)) z
    refine Or.inr ⟨q, p + d, hh.1, s, N, hq, hpd, ?_, ?_⟩
    · rw [c5el, c1', Option.bind_some, takE hne, Option.bind_some, if_pos zb0, c5tE hne]
    · rw [r7el, if_neg h12, c2', Option.bind_some, if_pos zb0]
  · have c1' : f_X5_readNumber (tvP bt tk p (-1)) 4 1 1800 = some (N, tvP bt tk (p + d) (-1)) := c1
    have c2' : f_X7_readsNumber (uwP u s (nI p) N0) 4 1 1800 = some (true, uwP u s (nI (p + d)) N) := c2
    have hlr : ∃ l' : Nat, 1 ≤ l' ∧ l' ≤ 3600 ∧ N = nI l' := len_r r1 (by
      have r2' : N ≤ nI 1800 := Int32.not_lt.mp r2
      show N ≤ nI 3600
      rw [Int32.le_iff_toInt_le, nI_toInt (by omega)] at r2' ⊢
      omega)
    have d1 := chC (bt := bt) htk hpd (c := 64) (by decide)
    have d2 := chR hT hpd s N 64
    cases hc : pCh bt tk (p + d) 64
    · rw [hc, if_neg (by decide)] at d1 d2
      rcases tail2 hT hpd h0 hl hin hn hlr (tm := -1) (Or.inl rfl) N with ⟨p', e', s', t1, t2, t3, t4, t5, t6, t7⟩ | ⟨q, p', e', s', t1, t2, t3, t4⟩
      · refine Or.inl ⟨p', e', s', N, by omega, t2, ?_, ?_, t5, t6, t7⟩
        · rw [c5el, c1', Option.bind_some, d1, Option.bind_some, if_pos zb0]
          exact t3
        · rw [r7el, if_neg h12, c2', Option.bind_some, if_neg zb1, d2, Option.bind_some, if_pos zb0]
          exact t4
      · refine Or.inr ⟨q, p', e', s', N, t1, t2, ?_, ?_⟩
        · rw [c5el, c1', Option.bind_some, d1, Option.bind_some, if_pos zb0]
          exact t3
        · rw [r7el, if_neg h12, c2', Option.bind_some, if_neg zb1, d2, Option.bind_some, if_pos zb0]
          exact t4
    · have hlt := pCh_lt hc
      rw [hc, if_pos rfl] at d1 d2
      obtain ⟨M, f, hpf, hnum2⟩ := num2 hT (show p + d + 1 ≤ tk by omega) (show 4 < 100 by omega) 0 3599 s N
      rcases hnum2 with ⟨q, hq, w1, w2⟩ | ⟨hf, y1, y2, w1, w2⟩
      · have w1' : f_X5_readNumber (tvP bt tk (p + d + 1) (-1)) 4 0 3599 = some (M, tvP bt tk (p + d + 1 + f) (nI q)) := w1
        have w2' : f_X7_readsNumber (uwP u s (nI (p + d + 1)) N) 4 0 3599 = some (false, uwP u s (nI q) M) := w2
        have hne : (tvP bt tk (p + d + 1 + f) (nI q)).2.2.2 ≠ -1 := fun z => of_eq_false (ne1_n (a := q) (by omega)) z
        refine Or.inr ⟨q, p + d + 1 + f, hh.1, s, M, hq, hpf, ?_, ?_⟩
        · rw [c5el, c1', Option.bind_some, d1, Option.bind_some, if_neg zb1, w1', Option.bind_some, c5tE hne]
        · rw [r7el, if_neg h12, c2', Option.bind_some, if_neg zb1, d2, Option.bind_some, if_neg zb1, w2', Option.bind_some, if_pos zb0]
      · have w1' : f_X5_readNumber (tvP bt tk (p + d + 1) (-1)) 4 0 3599 = some (M, tvP bt tk (p + d + 1 + f) (-1)) := w1
        have w2' : f_X7_readsNumber (uwP u s (nI (p + d + 1)) N) 4 0 3599 = some (true, uwP u s (nI (p + d + 1 + f)) M) := w2
        have htr : ∃ t' : Nat, t' ≤ 3599 ∧ M = nI t' := by
          obtain ⟨t', z1, z2⟩ := nI_of y1
          have y2' : ¬ nI 3599 < M := y2
          rw [z2, nI_ltI (by omega) z1] at y2'
          exact ⟨t', by omega, z2⟩
        rcases tail2 hT hpf h0 hl hin hn hlr (tm := M) (Or.inr htr) M with ⟨p', e', s', t1, t2, t3, t4, t5, t6, t7⟩ | ⟨q, p', e', s', t1, t2, t3, t4⟩
        · refine Or.inl ⟨p', e', s', M, by omega, t2, ?_, ?_, t5, t6, t7⟩
          · rw [c5el, c1', Option.bind_some, d1, Option.bind_some, if_neg zb1, w1', Option.bind_some]
            exact t3
          · rw [r7el, if_neg h12, c2', Option.bind_some, if_neg zb1, d2, Option.bind_some, if_neg zb1, w2', Option.bind_some, if_neg zb1]
            exact t4
        · refine Or.inr ⟨q, p', e', s', M, t1, t2, ?_, ?_⟩
          · rw [c5el, c1', Option.bind_some, d1, Option.bind_some, if_neg zb1, w1', Option.bind_some]
            exact t3
          · rw [r7el, if_neg h12, c2', Option.bind_some, if_neg zb1, d2, Option.bind_some, if_neg zb1, w2', Option.bind_some, if_neg zb1]
            exact t4
/-- a filler, behind its sign -/
theorem fi2 {u : MV} {bt : FF} {tk : Nat} (hT : TX u bt tk) {p n m : Nat} (hp : p < tk) {hh : HV} {s : FF} (h0 : HR0 hh s n m) (hl : LB True hh.2.2.1 s 0) (hin : pIn s n m 0) (hm : m < 10) (N0 : Int32) :
    (∃ (p' : Nat) (f' : FV) (s' : FF) (N' : Int32), p < p' ∧ p' ≤ tk ∧ f_X5_readFiller (tvP bt tk (p + 1) (-1)) hh.2.1 = some (tvP bt tk p' (-1), f') ∧ f_X7_readsFiller (uwP u s (nI p) N0) = some (true, uwP u s' (nI p') N') ∧ HR0 (hh.1, f', hh.2.2) s' n (m + 1) ∧ LB True hh.2.2.1 s' 0 ∧ pIn s' n (m + 1) 0) ∨
    (∃ (q p' : Nat) (f' : FV) (s' : FF) (N' : Int32), q ≤ tk ∧ p' ≤ tk ∧ f_X5_readFiller (tvP bt tk (p + 1) (-1)) hh.2.1 = some (tvP bt tk p' (nI q), f') ∧ f_X7_readsFiller (uwP u s (nI p) N0) = some (false, uwP u s' (nI q) N')) := by
  have htk := hT.1
  have h8 : s 8 = nI m := h0.2.1.2.2.1
  have h10 : ¬ s 8 = 10 := by
    show ¬ s 8 = nI 10
    rw [h8, nI_eq (by omega) (by omega)]; omega
  have href : f_X7_readsFiller (uwP u s (nI p) N0) = (f_X7_readsNumber (uwP u s (nI (p + 1)) N0) 3 1 900).bind (fun u2 => if (zb u2.1) = 0 then some (false, u2.2) else (f_X7_putFiller u2.2 u2.2.2.2.2.2.2.2.2.2.2.1).bind (fun u4 => (f_X7_takes u4 59).bind (fun u5 => some (u5.1, u5.2)))) := by
    unfold f_X7_readsFiller
    show (if s 8 = 10 then _ else (f_X7_readsNumber (uwP u s (nI p + 1) N0) 3 1 900).bind _) = _
    rw [if_neg h10, nI_1]
  obtain ⟨N, d, hpd, hnum⟩ := num2 hT (show p + 1 ≤ tk by omega) (show 3 < 100 by omega) 1 900 s N0
  rcases hnum with ⟨q, hq, c1, c2⟩ | ⟨hd, r1, r2, c1, c2⟩
  · have c1' : f_X5_readNumber (tvP bt tk (p + 1) (-1)) 3 1 900 = some (N, tvP bt tk (p + 1 + d) (nI q)) := c1
    have c2' : f_X7_readsNumber (uwP u s (nI (p + 1)) N0) 3 1 900 = some (false, uwP u s (nI q) N) := c2
    have hne : (tvP bt tk (p + 1 + d) (nI q)).2.2.2 ≠ -1 := fun z => of_eq_false (ne1_n (a := q) (by omega)) z
    refine Or.inr ⟨q, p + 1 + d, hh.2.1, s, N, hq, hpd, ?_, ?_⟩
    · unfold f_X5_readFiller
      rw [c1', Option.bind_some, semE hne, Option.bind_some, if_pos zb0]
    · rw [href, c2', Option.bind_some, if_pos zb0]
  · have c1' : f_X5_readNumber (tvP bt tk (p + 1) (-1)) 3 1 900 = some (N, tvP bt tk (p + 1 + d) (-1)) := c1
    have c2' : f_X7_readsNumber (uwP u s (nI (p + 1)) N0) 3 1 900 = some (true, uwP u s (nI (p + 1 + d)) N) := c2
    have hlr : ∃ l' : Nat, 1 ≤ l' ∧ l' ≤ 900 ∧ N = nI l' := by
      have r1' : ¬ N < nI 1 := r1
      have r2' : ¬ nI 900 < N := r2
      obtain ⟨l, l1, l2⟩ := nI_of (x := N) (by
        show ¬ N < nI 0
        rw [Int32.lt_iff_toInt_lt, nI_toInt (by omega)] at r1' ⊢
        omega)
      rw [l2, nI_ltI l1 (by omega)] at r1'
      rw [l2, nI_ltI (by omega) l1] at r2'
      exact ⟨l, by omega, by omega, l2⟩
    obtain ⟨f', s', k1, k2, -, -, k5, k6, k7, -⟩ := adf2 (u := uwP u s (nI (p + 1 + d)) N) h0 hl hin hm hlr
    have k2' : f_X7_putFiller (uwP u s (nI (p + 1 + d)) N) N = some (uwP u s' (nI (p + 1 + d)) N) := k2
    have href2 : f_X7_readsFiller (uwP u s (nI p) N0) = (f_X7_takes (uwP u s' (nI (p + 1 + d)) N) 59).bind (fun u5 => some (u5.1, u5.2)) := by
      rw [href, c2', Option.bind_some, if_neg zb1]
      show (f_X7_putFiller (uwP u s (nI (p + 1 + d)) N) N).bind _ = _
      rw [k2', Option.bind_some]
    have c3 := semC (bt := bt) htk hpd
    have c4 := chR hT hpd s' N 59
    cases hq : pCh bt tk (p + 1 + d) 59
    · rw [hq, if_neg (by decide)] at c3 c4
      refine Or.inr ⟨p + 1 + d, p + 1 + d, hh.2.1, s', N, hpd, hpd, ?_, ?_⟩
      · unfold f_X5_readFiller
        rw [c1', Option.bind_some, c3, Option.bind_some, if_pos zb0]
      · rw [href2, c4, Option.bind_some]
    · have hlt := pCh_lt hq
      rw [hq, if_pos rfl] at c3 c4
      refine Or.inl ⟨p + 1 + d + 1, f', s', N, by omega, by omega, ?_, ?_, k5, k6, k7⟩
      · unfold f_X5_readFiller
        rw [c1', Option.bind_some, c3, Option.bind_some, if_neg zb1, k1, Option.bind_some]
      · rw [href2, c4, Option.bind_some]
