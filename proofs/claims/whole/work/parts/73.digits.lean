/-! The pure part: bytes and numbers of a text. -/
def tvP (bt : FF) (tk p : Nat) (e : Int32) : TV := (bt, nI tk, nI p, e)
def uwP (u : MV) (s : FF) (p N : Int32) : MV := (s, u.2.1, u.2.2.1, u.2.2.2.1, u.2.2.2.2.1, u.2.2.2.2.2.1, u.2.2.2.2.2.2.1, u.2.2.2.2.2.2.2.1, p, N, u.2.2.2.2.2.2.2.2.2.2)
/-- a digit stands there; this byte stands there -/
def pDg (bt : FF) (tk p : Nat) : Bool := decide (p < tk ∧ ¬ bt p < 48 ∧ ¬ 57 < bt p)
def pCh (bt : FF) (tk p : Nat) (c : Int32) : Bool := decide (p < tk ∧ bt p = c)
def TX (u : MV) (bt : FF) (tk : Nat) : Prop := tk ≤ 100 ∧ u.2.2.2.2.2.2.1 = nI tk ∧ ∀ i : Nat, i < tk → bt i = u.2.2.2.2.2.1 i
theorem hrC {bt : FF} {tk p : Nat} (htk : tk ≤ 100) (hp : p ≤ tk) (e : Int32) : f_X5_here (tvP bt tk p e) = some (if p < tk then bt p else -1) := by
  unfold f_X5_here tvP
  show (if nI p < 0 then _ else if nI tk ≤ nI p then _ else if 100 ≤ nI p then _ else if zin (nI p) 100 = true then some (bt (nI p).toNatClampNeg) else none) = _
  rw [if_neg (of_eq_false (neg_n (by omega)))]
  by_cases h : p < tk
  · rw [if_neg (by rw [nI_leI (by omega) (by omega)]; omega), if_neg (show ¬ (100 : Int32) ≤ nI p by show ¬ nI 100 ≤ nI p; rw [nI_leI (by omega) (by omega)]; omega), if_pos (zin_n (by omega) (by omega)), cl_n (by omega), if_pos h]
  · rw [if_pos (by rw [nI_leI (by omega) (by omega)]; omega), if_neg h]
theorem dgC {bt : FF} {tk p : Nat} (htk : tk ≤ 100) (hp : p ≤ tk) (e : Int32) (t : TV) : ∃ x : Int32, f_X5_here (tvP bt tk p e) = some x ∧ f_X5_isDigit t x = some (pDg bt tk p) ∧ (p < tk → x = bt p) := by
  refine ⟨if p < tk then bt p else -1, hrC htk hp e, ?_, fun h => if_pos h⟩
  unfold f_X5_isDigit pDg
  by_cases h : p < tk
  · rw [if_pos h]
    by_cases h1 : bt p < 48
    · rw [if_pos h1, decide_eq_false (fun q => q.2.1 h1)]
    · rw [if_neg h1]
      by_cases h2 : 57 < bt p
      · rw [if_pos h2, decide_eq_false (fun q => q.2.2 h2)]
      · rw [if_neg h2, decide_eq_true ⟨h, h1, h2⟩]
  · rw [if_neg h, if_pos (by decide), decide_eq_false (fun q => h q.1)]
theorem atR {u : MV} {bt : FF} {tk p : Nat} (hT : TX u bt tk) (hp : p ≤ tk) (s : FF) (N a b : Int32) : f_X7_isAt (uwP u s (nI p) N) a b = some (decide (p < tk ∧ ¬ bt p < a ∧ ¬ b < bt p)) := by
  obtain ⟨htk, h2, h3⟩ := hT
  unfold f_X7_isAt uwP
  show (if u.2.2.2.2.2.2.1 ≤ nI p then _ else if zin (nI p) 100 = true then (f_X7_in (u.2.2.2.2.2.1 (nI p).toNatClampNeg) a b).bind (fun u3 => if (zb u3) = 0 then some false else some true) else none) = _
  rw [h2]
  by_cases h : p < tk
  · rw [if_neg (by rw [nI_leI (by omega) (by omega)]; omega), if_pos (zin_n (by omega) (by omega)), cl_n (by omega), ← h3 p h]
    by_cases h4 : bt p < a ∨ b < bt p
    · rw [in7f h4, Option.bind_some, if_pos zb0, decide_eq_false (fun q => h4.elim q.2.1 q.2.2)]
    · rw [in7t (fun q => h4 (Or.inl q)) (fun q => h4 (Or.inr q)), Option.bind_some, if_neg zb1, decide_eq_true ⟨h, fun q => h4 (Or.inl q), fun q => h4 (Or.inr q)⟩]
  · rw [if_pos (by rw [nI_leI (by omega) (by omega)]; omega), decide_eq_false (fun q => h q.1)]
theorem dgR {u : MV} {bt : FF} {tk p : Nat} (hT : TX u bt tk) (hp : p ≤ tk) (s : FF) (N : Int32) : f_X7_isAt (uwP u s (nI p) N) 48 57 = some (pDg bt tk p) := atR hT hp s N 48 57
theorem chR0 {u : MV} {bt : FF} {tk p : Nat} (hT : TX u bt tk) (hp : p ≤ tk) (s : FF) (N c : Int32) : f_X7_isAt (uwP u s (nI p) N) c c = some (pCh bt tk p c) := by
  rw [atR hT hp s N c c]
  unfold pCh
  congr 1
  apply decide_eq_decide.mpr
  constructor
  · rintro ⟨q1, q2, q3⟩
    refine ⟨q1, Int32.toInt_inj.mp ?_⟩
    rw [Int32.lt_iff_toInt_lt] at q2 q3
    omega
  · rintro ⟨q1, q2⟩
    rw [q2]
    exact ⟨q1, Int32.lt_irrefl, Int32.lt_irrefl⟩
theorem chR {u : MV} {bt : FF} {tk p : Nat} (hT : TX u bt tk) (hp : p ≤ tk) (s : FF) (N c : Int32) : f_X7_takes (uwP u s (nI p) N) c = some (pCh bt tk p c, uwP u s (nI (if pCh bt tk p c = true then p + 1 else p)) N) := by
  unfold f_X7_takes
  rw [chR0 hT hp s N c, Option.bind_some]
  cases hb : pCh bt tk p c
  · rw [if_pos zb0, if_neg (by decide)]
    show some (false, uwP u s (nI p + 0) N) = _
    rw [Int32.add_zero]
  · rw [if_neg zb1, if_pos rfl]
    show some (true, uwP u s (nI p + 1) N) = _
    rw [nI_1]
theorem chC {bt : FF} {tk p : Nat} (htk : tk ≤ 100) (hp : p ≤ tk) {c : Int32} (hc : c ≠ -1) : f_X5_take (tvP bt tk p (-1)) c = some (pCh bt tk p c, tvP bt tk (if pCh bt tk p c = true then p + 1 else p) (-1)) := by
  unfold f_X5_take
  show (if (-1 : Int32) = -1 then _ else _) = _
  rw [if_pos rfl, hrC htk hp (-1), Option.bind_some]
  unfold pCh
  by_cases h : p < tk
  · rw [if_pos h]
    by_cases h1 : bt p = c
    · rw [if_pos h1, decide_eq_true ⟨h, h1⟩, if_pos rfl]
      show some (true, (bt, nI tk, nI p + 1, (-1 : Int32))) = _
      rw [nI_1]
      rfl
    · rw [if_neg h1, decide_eq_false (fun q => h1 q.2), if_neg (by decide)]
  · rw [if_neg h, if_neg (fun q => hc q.symm), decide_eq_false (fun q => h q.1), if_neg (by decide)]
/-- once a mistake was found, nothing is taken -/
theorem takE {t : TV} (he : t.2.2.2 ≠ -1) (c : Int32) : f_X5_take t c = some (false, t) := by
  unfold f_X5_take
  rw [if_neg he]
theorem faiE {t : TV} (he : t.2.2.2 ≠ -1) (q : Int32) : f_X5_fail t q = some t := by
  unfold f_X5_fail
  rw [if_neg he]
theorem semE {t : TV} (he : t.2.2.2 ≠ -1) : f_X5_takeSemicolon t = some (false, t) := by
  unfold f_X5_takeSemicolon
  rw [takE he, Option.bind_some, if_pos zb0, faiE he, Option.bind_some]
theorem semC {bt : FF} {tk p : Nat} (htk : tk ≤ 100) (hp : p ≤ tk) : f_X5_takeSemicolon (tvP bt tk p (-1)) = some (pCh bt tk p 59, if pCh bt tk p 59 = true then tvP bt tk (p + 1) (-1) else tvP bt tk p (nI p)) := by
  unfold f_X5_takeSemicolon
  rw [chC htk hp (by decide), Option.bind_some]
  cases hb : pCh bt tk p 59
  · rw [if_pos zb0, if_neg (by decide)]
    unfold f_X5_fail
    show ((if (-1 : Int32) = -1 then some (bt, nI tk, nI p, nI p) else _).bind _ : Option (Bool × TV)) = _
    rw [if_pos rfl, Option.bind_some]
    rfl
  · rw [if_neg zb1, if_pos rfl]
    rfl
/-- a run of digits -/
def dRun (bt : FF) (tk : Nat) : Nat → Nat → Int32 → Nat × Int32
  | 0, _, N => (0, N)
  | r + 1, p, N => if pDg bt tk p = true then ((dRun bt tk r (p + 1) (N * 10 + (bt p - 48))).1 + 1, (dRun bt tk r (p + 1) (N * 10 + (bt p - 48))).2) else (0, N)
theorem dRun_t {bt : FF} {tk r p : Nat} {N : Int32} (h : pDg bt tk p = true) : dRun bt tk (r + 1) p N = ((dRun bt tk r (p + 1) (N * 10 + (bt p - 48))).1 + 1, (dRun bt tk r (p + 1) (N * 10 + (bt p - 48))).2) := if_pos h
theorem dRun_f {bt : FF} {tk r p : Nat} {N : Int32} (h : ¬ pDg bt tk p = true) : dRun bt tk (r + 1) p N = (0, N) := if_neg h
theorem pDg_lt {bt : FF} {tk p : Nat} (h : pDg bt tk p = true) : p < tk := (of_decide_eq_true h).1
theorem dRun_le (bt : FF) (tk : Nat) : ∀ (r p : Nat) (N : Int32), p ≤ tk → p + (dRun bt tk r p N).1 ≤ tk := by
  intro r
  induction r with
  | zero => intro p N h; exact h
  | succ r ih =>
    intro p N h
    by_cases hd : pDg bt tk p = true
    · rw [dRun_t hd]
      have := ih (p + 1) (N * 10 + (bt p - 48)) (pDg_lt hd)
      show p + ((dRun bt tk r (p + 1) (N * 10 + (bt p - 48))).1 + 1) ≤ tk
      omega
    · rw [dRun_f hd]; exact h
theorem runC {bt : FF} {tk : Nat} (htk : tk ≤ 100) {v : TV} (hv1 : v.1 = bt) (hv2 : v.2.1 = nI tk) (mx : Nat) (hmx : mx < 100) (i2 i3 i4 : Int32) : ∀ (r p : Nat) (N : Int32) (d fu : Nat), d + r = mx → r < fu → p ≤ tk → zloop (s_X5_readNumber_12 v (nI mx) i2 i3 i4) fu (N, nI d, nI p) = some ((dRun bt tk r p N).2, nI (d + (dRun bt tk r p N).1), nI (p + (dRun bt tk r p N).1)) := by
  intro r
  induction r with
  | zero =>
    intro p N d fu hd hf hp
    cases fu with
    | zero => omega
    | succ fu =>
      refine zl_r ?_ fu
      unfold s_X5_readNumber_12
      show (if nI mx ≤ nI d then _ else _) = _
      rw [if_pos (by rw [nI_leI (by omega) (by omega)]; omega)]
      rfl
  | succ r ih =>
    intro p N d fu hd hf hp
    cases fu with
    | zero => omega
    | succ fu =>
      obtain ⟨x, x1, x2, x3⟩ := dgC (bt := bt) htk hp v.2.2.2 (v.1, v.2.1, nI p, v.2.2.2)
      have x1' : f_X5_here (v.1, v.2.1, nI p, v.2.2.2) = some x := by rw [hv1, hv2]; exact x1
      by_cases hg : pDg bt tk p = true
      · rw [zl_l (y := (N * 10 + (bt p - 48), nI (d + 1), nI (p + 1))) ?_ fu, ih (p + 1) (N * 10 + (bt p - 48)) (d + 1) fu (by omega) (by omega) (pDg_lt hg), dRun_t hg]
        · show some ((dRun bt tk r (p + 1) (N * 10 + (bt p - 48))).2, nI (d + 1 + (dRun bt tk r (p + 1) (N * 10 + (bt p - 48))).1), nI (p + 1 + (dRun bt tk r (p + 1) (N * 10 + (bt p - 48))).1)) = some ((dRun bt tk r (p + 1) (N * 10 + (bt p - 48))).2, nI (d + ((dRun bt tk r (p + 1) (N * 10 + (bt p - 48))).1 + 1)), nI (p + ((dRun bt tk r (p + 1) (N * 10 + (bt p - 48))).1 + 1)))
          rw [show d + 1 + (dRun bt tk r (p + 1) (N * 10 + (bt p - 48))).1 = d + ((dRun bt tk r (p + 1) (N * 10 + (bt p - 48))).1 + 1) by omega, show p + 1 + (dRun bt tk r (p + 1) (N * 10 + (bt p - 48))).1 = p + ((dRun bt tk r (p + 1) (N * 10 + (bt p - 48))).1 + 1) by omega]
        · unfold s_X5_readNumber_12
          show (if nI mx ≤ nI d then _ else (f_X5_here (v.1, v.2.1, nI p, v.2.2.2)).bind (fun u2 => (f_X5_isDigit (v.1, v.2.1, nI p, v.2.2.2) u2).bind (fun u3 => if (zb u3) = 0 then _ else (f_X5_here (v.1, v.2.1, nI p, v.2.2.2)).bind (fun u5 => some (Sum.inl (((N * 10) + (u5 - 48)), (nI d + 1), (nI p + 1))))))) = _
          rw [if_neg (by rw [nI_leI (by omega) (by omega)]; omega), x1', Option.bind_some, x2, Option.bind_some, hg, if_neg zb1, Option.bind_some, x3 (pDg_lt hg), nI_1, nI_1]
      · rw [dRun_f hg]
        refine zl_r ?_ fu
        unfold s_X5_readNumber_12
        show (if nI mx ≤ nI d then _ else (f_X5_here (v.1, v.2.1, nI p, v.2.2.2)).bind (fun u2 => (f_X5_isDigit (v.1, v.2.1, nI p, v.2.2.2) u2).bind (fun u3 => if (zb u3) = 0 then _ else _))) = _
        have hg' : pDg bt tk p = false := by simpa using hg
        rw [if_neg (by rw [nI_leI (by omega) (by omega)]; omega), x1', Option.bind_some, x2, Option.bind_some, hg', if_pos zb0]
        rfl
theorem ten_n (N b : Int32) : ((10 * N) + b) - 48 = N * 10 + (b - 48) := by
  rw [Int32.mul_comm, Int32.sub_eq_add_neg, Int32.sub_eq_add_neg, Int32.add_assoc]
theorem runR {u : MV} {bt : FF} {tk : Nat} (hT : TX u bt tk) (s : FF) (N0 : Int32) (q : Int32) (mx p0 : Nat) (hp0 : p0 ≤ 100) (hmx : mx < 100) (i2 i3 : Int32) : ∀ (r p : Nat) (N : Int32) (d fu : Nat), d + r = mx → p = p0 + d → r < fu → p ≤ tk → zloop (s_X7_readsNumber_11 (uwP u s q N0) (nI mx) i2 i3 (nI p0)) fu (nI p, N) = some (nI (p + (dRun bt tk r p N).1), (dRun bt tk r p N).2) := by
  have hT0 := hT
  obtain ⟨htk, hT2, hT3⟩ := hT0
  intro r
  induction r with
  | zero =>
    intro p N d fu hd hpd hf hp
    cases fu with
    | zero => omega
    | succ fu =>
      refine zl_r ?_ fu
      unfold s_X7_readsNumber_11
      show (if nI mx ≤ nI p - nI p0 then _ else _) = _
      rw [pk_sub (by omega), if_pos (by rw [nI_leI (by omega) (by omega)]; omega)]
      rfl
  | succ r ih =>
    intro p N d fu hd hpd hf hp
    cases fu with
    | zero => omega
    | succ fu =>
      have x2 := dgR hT hp s N
      by_cases hg : pDg bt tk p = true
      · rw [zl_l (y := (nI (p + 1), N * 10 + (bt p - 48))) ?_ fu, ih (p + 1) (N * 10 + (bt p - 48)) (d + 1) fu (by omega) (by omega) (by omega) (pDg_lt hg), dRun_t hg]
        · show some (nI (p + 1 + (dRun bt tk r (p + 1) (N * 10 + (bt p - 48))).1), _) = some (nI (p + ((dRun bt tk r (p + 1) (N * 10 + (bt p - 48))).1 + 1)), (dRun bt tk r (p + 1) (N * 10 + (bt p - 48))).2)
          rw [show p + 1 + (dRun bt tk r (p + 1) (N * 10 + (bt p - 48))).1 = p + ((dRun bt tk r (p + 1) (N * 10 + (bt p - 48))).1 + 1) by omega]
        · unfold s_X7_readsNumber_11
          show (if nI mx ≤ nI p - nI p0 then _ else (f_X7_isAt (uwP u s (nI p) N) 48 57).bind (fun u2 => if (zb u2) = 0 then _ else if zin (nI p) 100 = true then some (Sum.inl ((nI p + 1), (((10 * N) + (u.2.2.2.2.2.1 (nI p).toNatClampNeg)) - 48))) else none)) = _
          rw [pk_sub (by omega), if_neg (by rw [nI_leI (by omega) (by omega)]; omega), x2, Option.bind_some, hg, if_neg zb1, if_pos (zin_n (by have := pDg_lt hg; omega) (by omega)), cl_n (by omega), ← hT3 p (pDg_lt hg), ten_n, nI_1]
      · rw [dRun_f hg]
        refine zl_r ?_ fu
        unfold s_X7_readsNumber_11
        show (if nI mx ≤ nI p - nI p0 then _ else (f_X7_isAt (uwP u s (nI p) N) 48 57).bind (fun u2 => if (zb u2) = 0 then _ else _)) = _
        have hg' : pDg bt tk p = false := by simpa using hg
        rw [pk_sub (by omega), if_neg (by rw [nI_leI (by omega) (by omega)]; omega), x2, Option.bind_some, hg', if_pos zb0]
        rfl
