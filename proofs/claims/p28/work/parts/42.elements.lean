/-! The pure part: what an hour's elements tell. -/
theorem hasN {e : EV} {s : FF} {n : Nat} (h : ER e s n) {i : Nat} (hi : i < n) : f_X0_has e (nI i) = some true := by
  have hn := h.1
  simp [f_X0_has, neg_n (a := i) (by omega), h.2.1, le_n (a := n) (b := i) (by omega) (by omega), show ¬ n ≤ i by omega]
theorem is0 {e : EV} {s : FF} {n : Nat} (h : ER e s n) {i : Nat} (hi : i < n) (p : Int32) : f_X0_is e (nI i) p = some (decide (pS s i = p)) := by
  have hn := h.1
  obtain ⟨-, -, -, e4, -⟩ := h.2.2.2 i hi
  by_cases hc : pS s i = p <;> simp [f_X0_is, hasN h hi, zb_t, zin_n (i := i) (N := 12) (by omega) (by omega), cl_n (a := i) (by omega), e4, hc]
theorem wt0 {e : EV} {s : FF} {n : Nat} (h : ER e s n) {i : Nat} (hi : i < n) : f_X0_waits e (nI i) = some (decide (pS s i = 0)) := by
  simp [f_X0_waits, is0 h hi]
theorem fx0 {e : EV} {s : FF} {n : Nat} (h : ER e s n) {i : Nat} (hi : i < n) : f_X0_isFixed e (nI i) = some (decide (pT s i ≠ -1)) := by
  have hn := h.1
  obtain ⟨-, e2, -⟩ := h.2.2.2 i hi
  by_cases hc : pT s i = -1 <;> simp [f_X0_isFixed, hasN h hi, zb_t, zin_n (i := i) (N := 12) (by omega) (by omega), cl_n (a := i) (by omega), e2, hc]
theorem bg0 {e : EV} {s : FF} {n : Nat} (h : ER e s n) {i : Nat} (hi : i < n) : f_X0_begunAt e (nI i) = some (pB s i) := by
  have hn := h.1
  obtain ⟨-, -, -, -, e5⟩ := h.2.2.2 i hi
  simp [f_X0_begunAt, hasN h hi, zb_t, zin_n (i := i) (N := 12) (by omega) (by omega), cl_n (a := i) (by omega), e5]
/-- how late a fixed element began; -1: not fixed, or not begun -/
def pLate (s : FF) (i : Nat) : Int32 := if pT s i = -1 then -1 else if pB s i = -1 then -1 else pB s i - pT s i
theorem lt0 {e : EV} {s : FF} {n : Nat} (h : ER e s n) {i : Nat} (hi : i < n) : f_X0_lateness e (nI i) = some (pLate s i) := by
  have hn := h.1
  obtain ⟨-, e2, -, -, e5⟩ := h.2.2.2 i hi
  unfold pLate
  by_cases hc : pT s i = -1
  · simp [f_X0_lateness, fx0 h hi, hc, zb_d]
  · by_cases hb : pB s i = -1 <;> simp [f_X0_lateness, fx0 h hi, hc, zb_d, zin_n (i := i) (N := 12) (by omega) (by omega), cl_n (a := i) (by omega), e2, e5, hb]
theorem lt7 {u : MV} {i : Nat} (hi : i ≤ 12) : f_X7_latenessOf u (nI i) = some (pLate u.1 i) := by
  unfold pLate
  by_cases hc : pT u.1 i = -1
  · simp [f_X7_latenessOf, x7fixed hi, hc, zb_d]
  · by_cases hb : pB u.1 i = -1 <;> simp [f_X7_latenessOf, x7fixed hi, x7of4 hi, x7of1 hi, hc, zb_d, hb]
theorem sec2 {e : EV} {u : MV} {n : Nat} (h : ER e u.1 n) {i : Nat} (hi : i < n) : ∃ b : Bool, f_X0_inSection e (nI i) = some b ∧ f_X7_isInSection u (nI i) = some b := by
  have hn := h.1
  obtain ⟨j, t, h1, h2, h3, -⟩ := goal2 h
  by_cases hc : pS u.1 i = 0
  · by_cases hj : j ≤ i
    · exact ⟨false, by simp [f_X0_inSection, wt0 h hi, hc, zb_d, h2, le_n (a := j) (b := i) (by omega) (by omega), hj], by simp [f_X7_isInSection, x7waits (u := u) (i := i) (by omega), hc, zb_d, h3, le_n (a := j) (b := i) (by omega) (by omega), hj]⟩
    · exact ⟨true, by simp [f_X0_inSection, wt0 h hi, hc, zb_d, h2, le_n (a := j) (b := i) (by omega) (by omega), hj], by simp [f_X7_isInSection, x7waits (u := u) (i := i) (by omega), hc, zb_d, h3, le_n (a := j) (b := i) (by omega) (by omega), hj]⟩
  · exact ⟨false, by simp [f_X0_inSection, wt0 h hi, hc, zb_d], by simp [f_X7_isInSection, x7waits (u := u) (i := i) (by omega), hc, zb_d]⟩
/-- the first that waits, of those below j; j: none -/
theorem fw0 {e : EV} {s : FF} {n : Nat} (h : ER e s n) : ∃ a : Nat, a ≤ n ∧ f_X0_firstThatWaits e = some (if a = n then -1 else nI a) ∧ (a < n → pS s a = 0) ∧ ∀ k : Nat, k < a → pS s k ≠ 0 := by
  have hn := h.1
  obtain ⟨r, h1, a, h2, rfl, h3, h4⟩ := zl1 (f := s_X0_firstThatWaits_2 e)
    (fun k x => ∃ a : Nat, k = n - a ∧ x = nI a ∧ a ≤ n ∧ ∀ k : Nat, k < a → pS s k ≠ 0)
    (fun r => ∃ a : Nat, a ≤ n ∧ r = (if a = n then -1 else nI a) ∧ (a < n → pS s a = 0) ∧ ∀ k : Nat, k < a → pS s k ≠ 0)
    (by
      rintro k x ⟨a, rfl, rfl, hb, hc⟩
      by_cases hl : n ≤ a
      · obtain rfl : a = n := by omega
        exact Or.inl ⟨-1, by simp [s_X0_firstThatWaits_2, h.2.1], a, Nat.le_refl _, by simp, fun q => by omega, hc⟩
      · obtain ⟨-, -, -, e4, -⟩ := h.2.2.2 a (by omega)
        by_cases hs : pS s a = 0
        · refine Or.inl ⟨nI a, ?_, a, hb, by rw [if_neg (by omega)], fun _ => hs, hc⟩
          simp [s_X0_firstThatWaits_2, h.2.1, le_n (a := n) (b := a) (by omega) (by omega), hl, zin_n (i := a) (N := 12) (by omega) (by omega), cl_n (a := a) (by omega), e4, hs]
        · refine Or.inr ⟨n - (a + 1), nI (a + 1), ?_, by omega, a + 1, rfl, rfl, by omega, fun k h2 => ?_⟩
          · simp [s_X0_firstThatWaits_2, h.2.1, le_n (a := n) (b := a) (by omega) (by omega), hl, zin_n (i := a) (N := 12) (by omega) (by omega), cl_n (a := a) (by omega), e4, hs, nI_1]
          · by_cases hk : k = a
            · subst hk; exact hs
            · exact hc k (by omega))
    4096 n (nI 0) (by omega) ⟨0, rfl, rfl, Nat.zero_le _, fun k h2 => by omega⟩
  exact ⟨a, h2, h1, h3, h4⟩
theorem fw7 {u : MV} {j : Nat} (hj : j ≤ 12) : ∃ a : Nat, a ≤ j ∧ f_X7_firstWaiting u (nI j) = some (if a = j then -1 else nI a) ∧ (a < j → pS u.1 a = 0) ∧ ∀ k : Nat, k < a → pS u.1 k ≠ 0 := by
  obtain ⟨r, h1, a, h2, rfl, h3, h4⟩ := zl1 (f := s_X7_firstWaiting_2 u (nI j))
    (fun k x => ∃ a : Nat, k = j - a ∧ x = nI a ∧ a ≤ j ∧ ∀ k : Nat, k < a → pS u.1 k ≠ 0)
    (fun r => ∃ a : Nat, a ≤ j ∧ r = nI a ∧ (a < j → pS u.1 a = 0) ∧ ∀ k : Nat, k < a → pS u.1 k ≠ 0)
    (by
      rintro k x ⟨a, rfl, rfl, hb, hc⟩
      by_cases hl : j ≤ a
      · obtain rfl : a = j := by omega
        exact Or.inl ⟨nI a, by simp [s_X7_firstWaiting_2], a, Nat.le_refl _, rfl, fun q => by omega, hc⟩
      · by_cases hs : pS u.1 a = 0
        · refine Or.inl ⟨nI a, ?_, a, hb, rfl, fun _ => hs, hc⟩
          simp [s_X7_firstWaiting_2, le_n (a := j) (b := a) (by omega) (by omega), hl, x7waits (u := u) (i := a) (by omega), hs, zb_d]
        · refine Or.inr ⟨j - (a + 1), nI (a + 1), ?_, by omega, a + 1, rfl, rfl, by omega, fun k h2 => ?_⟩
          · simp [s_X7_firstWaiting_2, le_n (a := j) (b := a) (by omega) (by omega), hl, x7waits (u := u) (i := a) (by omega), hs, zb_d, nI_1]
          · by_cases hk : k = a
            · subst hk; exact hs
            · exact hc k (by omega))
    4096 j (nI 0) (by omega) ⟨0, rfl, rfl, Nat.zero_le _, fun k h2 => by omega⟩
  refine ⟨a, h2, ?_, h3, h4⟩
  have h1' : zloop (s_X7_firstWaiting_2 u (nI j)) 4096 0 = some (nI a) := h1
  unfold f_X7_firstWaiting
  rw [h1']
  by_cases haj : a = j
  · simp [haj]
  · have hne : ¬ nI a = nI j := by rw [nI_eq (by omega) (by omega)]; exact haj
    simp [haj, hne]
/-- the last of the least ranks of those that wait below j -/
theorem le2 {e : EV} {u : MV} {n : Nat} (h : ER e u.1 n) {j : Nat} (hj : j ≤ n) (h0 : f_X0_nextFixed e 0 = some (nI j)) : ∃ b : Int32, f_X0_leastOfSection e = some b ∧ f_X7_lowest u (nI j) = some b ∧ (b = -1 ∨ ∃ a : Nat, a < j ∧ b = nI a ∧ pS u.1 a = 0) := by
  have hn := h.1
  have key := pF_rel (α := Int32 × Int32) (β := Int32) (fun x y => x.1 = y ∧ ((x.1 = -1 ∧ x.2 = 8) ∨ ∃ a : Nat, a < j ∧ x.1 = nI a ∧ pS u.1 a = 0 ∧ x.2 = pK u.1 a ∧ pK u.1 a ≤ 8))
    (G := fun a x => if pS u.1 a = 0 then (if x.2 < pK u.1 a then x else (nI a, pK u.1 a)) else x)
    (H := fun a y => if pS u.1 a = 0 then (if 9 ≤ pK u.1 a then y else if y = -1 then nI a else if pK u.1 y.toNatClampNeg < pK u.1 a then y else nI a) else y)
    j 0 (-1, 8) (-1) ⟨rfl, Or.inl ⟨rfl, rfl⟩⟩ (by
      rintro a ⟨x1, x2⟩ y ha hb ⟨rfl, hx⟩
      by_cases hs : pS u.1 a = 0
      · simp only [hs, if_true]
        have h89 : (9 ≤ pK u.1 a) = (8 < pK u.1 a) := by
          apply propext
          rw [Int32.le_iff_toInt_le, Int32.lt_iff_toInt_lt, show (9 : Int32).toInt = 9 from rfl, show (8 : Int32).toInt = 8 from rfl]
          omega
        simp only [h89]
        rcases hx with ⟨hx1, hx2⟩ | ⟨c, hc, hx1, hs', hx2, hx3⟩
        · simp only at hx1 hx2
          subst hx1; subst hx2
          by_cases h8 : 8 < pK u.1 a
          · simp [h8]
          · simp only [h8, if_false, if_true]
            refine ⟨by trivial, Or.inr ⟨a, by omega, rfl, hs, rfl, Int32.not_lt.mp h8⟩⟩
        · simp only at hx1 hx2
          subst hx1; subst hx2
          have hne : (nI c = -1) = False := ne1_n (by omega)
          simp only [hne, if_false, cl_n (a := c) (by omega)]
          by_cases h8 : 8 < pK u.1 a
          · have hlt : pK u.1 c < pK u.1 a := by
              rw [Int32.lt_iff_toInt_lt] at h8 ⊢
              rw [Int32.le_iff_toInt_le] at hx3
              omega
            simp only [h8, hlt, if_true]
            exact ⟨by trivial, Or.inr ⟨c, hc, rfl, hs', rfl, hx3⟩⟩
          · simp only [h8, if_false]
            by_cases hlt : pK u.1 c < pK u.1 a
            · simp only [hlt, if_true]
              exact ⟨by trivial, Or.inr ⟨c, hc, rfl, hs', rfl, hx3⟩⟩
            · simp only [hlt, if_false]
              exact ⟨by trivial, Or.inr ⟨a, by omega, rfl, hs, rfl, Int32.not_lt.mp h8⟩⟩
      · simp only [hs, if_false]
        exact ⟨trivial, hx⟩)
  have h1 := zlF' (f := s_X0_leastOfSection_14 e (nI j)) (fun a (x : Int32 × Int32) => (x.1, x.2, nI a)) (fun x => (x.1, x.2, nI j)) (fun a x => if pS u.1 a = 0 then (if x.2 < pK u.1 a then x else (nI a, pK u.1 a)) else x) j
    (fun a x ha => by
      obtain ⟨-, -, e3, e4, -⟩ := h.2.2.2 a (by omega)
      by_cases hc : pS u.1 a = 0
      · by_cases hk : x.2 < pK u.1 a <;> simp [s_X0_leastOfSection_14, h.2.1, le_n (a := n) (b := a) (by omega) (by omega), le_n (a := j) (b := a) (by omega) (by omega), show ¬ j ≤ a by omega, show ¬ n ≤ a by omega, zin_n (i := a) (N := 12) (by omega) (by omega), cl_n (a := a) (by omega), e3, e4, hc, hk, nI_1]
      · simp [s_X0_leastOfSection_14, h.2.1, le_n (a := n) (b := a) (by omega) (by omega), le_n (a := j) (b := a) (by omega) (by omega), show ¬ j ≤ a by omega, show ¬ n ≤ a by omega, zin_n (i := a) (N := 12) (by omega) (by omega), cl_n (a := a) (by omega), e3, e4, hc, nI_1])
    (fun x => by simp [s_X0_leastOfSection_14]) j 0 (-1, 8) 4096 (by omega) (by omega)
  have h2 := zlF (f := s_X7_lowest_4 u (nI j)) (fun a (x : Int32) => (x, nI a)) (fun x => (x, nI j)) (fun a y => if pS u.1 a = 0 then (if 9 ≤ pK u.1 a then y else if y = -1 then nI a else if pK u.1 y.toNatClampNeg < pK u.1 a then y else nI a) else y) j
    (fun a y => a ≤ j ∧ (y = -1 ∨ ∃ c : Nat, c < j ∧ y = nI c))
    (fun a y ha hp => by
      refine ⟨?_, by omega, ?_⟩
      · by_cases hc : pS u.1 a = 0
        · by_cases hk : 9 ≤ pK u.1 a
          · simp [s_X7_lowest_4, le_n (a := j) (b := a) (by omega) (by omega), show ¬ j ≤ a by omega, x7waits (u := u) (i := a) (by omega), x7of2 (u := u) (i := a) (by omega), zb_d, hc, hk, nI_1]
          · rcases hp.2 with rfl | ⟨c, hcj, rfl⟩
            · simp [s_X7_lowest_4, le_n (a := j) (b := a) (by omega) (by omega), show ¬ j ≤ a by omega, x7waits (u := u) (i := a) (by omega), x7of2 (u := u) (i := a) (by omega), zb_d, hc, hk, nI_1]
            · by_cases hq : pK u.1 c < pK u.1 a <;> simp [s_X7_lowest_4, le_n (a := j) (b := a) (by omega) (by omega), show ¬ j ≤ a by omega, x7waits (u := u) (i := a) (by omega), x7of2 (u := u) (i := a) (by omega), x7of2 (u := u) (i := c) (by omega), zb_d, hc, hk, hq, ne1_n (a := c) (by omega), cl_n (a := c) (by omega), nI_1]
        · simp [s_X7_lowest_4, le_n (a := j) (b := a) (by omega) (by omega), show ¬ j ≤ a by omega, x7waits (u := u) (i := a) (by omega), zb_d, hc, nI_1]
      · have h3 : ∃ c : Nat, c < j ∧ nI a = nI c := ⟨a, ha, rfl⟩
        split
        · split
          · exact hp.2
          · split
            · exact Or.inr h3
            · split
              · exact hp.2
              · exact Or.inr h3
        · exact hp.2)
    (fun x _ => by simp [s_X7_lowest_4]) j 0 (-1) 4096 (by omega) (by omega) ⟨by omega, Or.inl rfl⟩
  have h1' : zloop (s_X0_leastOfSection_14 e (nI j)) 4096 (-1, 8, 0) = _ := h1
  have h2' : zloop (s_X7_lowest_4 u (nI j)) 4096 (-1, 0) = _ := h2
  have q1 : ∀ X : Int32 × Int32 × Int32, zloop (s_X0_leastOfSection_14 e (nI j)) 4096 (-1, 8, 0) = some X → f_X0_leastOfSection e = some X.1 := fun X hX => by
    unfold f_X0_leastOfSection
    rw [h0]
    simp only [Option.bind_some]
    rw [hX]
    rfl
  have q2 : ∀ X : Int32 × Int32, zloop (s_X7_lowest_4 u (nI j)) 4096 (-1, 0) = some X → f_X7_lowest u (nI j) = some X.1 := fun X hX => by
    unfold f_X7_lowest
    rw [hX]
    rfl
  refine ⟨_, (q1 _ h1').trans (congrArg some key.1), q2 _ h2', ?_⟩
  rcases key.2 with hx | ⟨a, ha, hx, hs, -⟩
  · exact Or.inl (key.1 ▸ hx.1)
  · exact Or.inr ⟨a, ha, key.1 ▸ hx, hs⟩
theorem bk2 {e : EV} {u : MV} {n : Nat} (h : ER e u.1 n) {i : Nat} (hi : i < n) : ∃ b : Int32, f_X0_latestBegin e (nI i) = some b ∧ f_X7_backOf u (nI i) = some b := by
  have hn := h.1
  by_cases hc : pS u.1 i = 0
  · obtain ⟨j, h1, h2, h3, h4, -⟩ := nf2 h (i := i + 1) (by omega)
    obtain ⟨t, k1, k2, -⟩ := tm2 h h2
    have w0 := wl0 h (i := i) (j := j) (by omega) h2
    have w7 := zlF' (f := s_X7_backOf_25 u (nI j)) (fun a (x : Int32) => (x, nI a)) (fun x => (x, nI j)) (fun a x => if pS u.1 a = 0 then x + pL u.1 a else x) j
      (fun a x ha => by
        by_cases hc : pS u.1 a = 0 <;> simp [s_X7_backOf_25, le_n (a := j) (b := a) (by omega) (by omega), show ¬ j ≤ a by omega, x7waits (u := u) (i := a) (by omega), x7of0 (u := u) (i := a) (by omega), zb_d, hc, nI_1])
      (fun x => by simp [s_X7_backOf_25]) (j - i) i 0 4096 (by omega) (by omega)
    have w7' : zloop (s_X7_backOf_25 u (nI j)) 4096 (0, nI i) = some (pSum (pS u.1) (pL u.1) (j - i) i 0, nI j) := w7
    refine ⟨t - pSum (pS u.1) (pL u.1) (j - i) i 0, ?_, ?_⟩
    · simp [f_X0_latestBegin, wt0 h hi, hc, zb_d, nI_1, h3, k1, w0]
    · simp [f_X7_backOf, x7waits (u := u) (i := i) (by omega), hc, zb_d, nI_1, h4, k2, w7']
  · exact ⟨-10000, by simp [f_X0_latestBegin, wt0 h hi, hc, zb_d], by simp [f_X7_backOf, x7waits (u := u) (i := i) (by omega), hc, zb_d]⟩
theorem tell2 {e : EV} {u : MV} {n : Nat} (h : ER e u.1 n) {i w : Nat} (hi : i < n) (hw : w ≤ 6) : ∃ b : Int32, f_X0_tell e (nI i) (nI w) = some b ∧ f_X7_elementOf u (nI i) (nI w) = some b := by
  have hn := h.1
  obtain ⟨e1, e2, e3, e4, e5⟩ := h.2.2.2 i hi
  have hz := zin_n (i := i) (N := 12) (by omega) (by omega)
  have hcl := cl_n (a := i) (by omega)
  rcases (by omega : w = 0 ∨ w = 1 ∨ w = 2 ∨ w = 3 ∨ w = 4 ∨ w = 5 ∨ w = 6) with rfl | rfl | rfl | rfl | rfl | rfl | rfl
  · exact ⟨pL u.1 i, by simp [f_X0_tell, hasN h hi, zb_t, hz, hcl, e1, show (nI 0 : Int32) = 0 from rfl], by simp [f_X7_elementOf, show (nI 0 : Int32) = 0 from rfl, x7of0 (u := u) (i := i) (by omega), show ¬ (5 : Int32) ≤ 0 by decide]⟩
  · exact ⟨pT u.1 i, by simp [f_X0_tell, hasN h hi, zb_t, hz, hcl, e2, show (nI 1 : Int32) = 1 from rfl], by simp [f_X7_elementOf, show (nI 1 : Int32) = 1 from rfl, x7of1 (u := u) (i := i) (by omega), show ¬ (5 : Int32) ≤ 1 by decide]⟩
  · exact ⟨pK u.1 i, by simp [f_X0_tell, hasN h hi, zb_t, hz, hcl, e3, show (nI 2 : Int32) = 2 from rfl], by simp [f_X7_elementOf, show (nI 2 : Int32) = 2 from rfl, x7of2 (u := u) (i := i) (by omega), show ¬ (5 : Int32) ≤ 2 by decide]⟩
  · exact ⟨pS u.1 i, by simp [f_X0_tell, hasN h hi, zb_t, hz, hcl, e4, show (nI 3 : Int32) = 3 from rfl], by simp [f_X7_elementOf, show (nI 3 : Int32) = 3 from rfl, x7of3 (u := u) (i := i) (by omega), show ¬ (5 : Int32) ≤ 3 by decide]⟩
  · exact ⟨pB u.1 i, by simp [f_X0_tell, hasN h hi, zb_t, hz, hcl, e5, show (nI 4 : Int32) = 4 from rfl], by simp [f_X7_elementOf, show (nI 4 : Int32) = 4 from rfl, x7of4 (u := u) (i := i) (by omega), show ¬ (5 : Int32) ≤ 4 by decide]⟩
  · exact ⟨pLate u.1 i, by simp [f_X0_tell, hasN h hi, zb_t, lt0 h hi, show (nI 5 : Int32) = 5 from rfl], by simp [f_X7_elementOf, show (nI 5 : Int32) = 5 from rfl, lt7 (u := u) (i := i) (by omega)]⟩
  · obtain ⟨b, hb1, hb2⟩ := sec2 h hi
    exact ⟨zb b, by cases b <;> simp [f_X0_tell, hasN h hi, zb_t, zb_f, hb1, show (nI 6 : Int32) = 6 from rfl], by cases b <;> simp [f_X7_elementOf, zb_t, zb_f, show (nI 6 : Int32) = 6 from rfl, hb2]⟩
