/-! The law's arrays beside the row: what is asked of them. -/
theorem zl_mono {σ ρ : Type} {f : σ → Option (σ ⊕ ρ)} : ∀ (n m : Nat) (x : σ) (r : ρ), zloop f n x = some r → n ≤ m → zloop f m x = some r := by
  intro n
  induction n with
  | zero => intro m x r h _; exact absurd h (by simp [zloop])
  | succ n ih =>
    intro m x r h hm
    obtain ⟨m', rfl⟩ : ∃ m', m = m' + 1 := ⟨m - 1, by omega⟩
    rw [zloop] at h ⊢
    obtain ⟨y, hy, h2⟩ := ob h
    rw [hy]
    cases y with
    | inl x' => exact ih m' x' r h2 (by omega)
    | inr r' => exact h2
theorem zin_i {i N : Nat} (h : zin (nI i) N = true) (hi : i < 100000) : i < N := by
  have h1 : ¬ (nI i < 0 ∨ N ≤ (nI i).toNatClampNeg) := of_decide_eq_true h
  rw [cl_n hi] at h1
  omega
/-- elements, fillers, entries of the law's arrays and of a row -/
def EL (e s : FF) (n : Nat) : Prop := ∀ i w : Nat, i < n → w < 5 → e (5 * i + w) = s (10 + 5 * i + w)
def FL (f s : FF) (m : Nat) : Prop := ∀ i w : Nat, i < m → w < 3 → f (3 * i + w) = s (70 + 3 * i + w)
def NL (l s : FF) (k : Nat) : Prop := ∀ i w : Nat, i < k → i < 21 → w < 3 → l (3 * i + w) = s (100 + 3 * i + w)
theorem l5w {i w : Nat} : 5 * nI i + nI w = nI (5 * i + w) := by rw [show (5 : Int32) = nI 5 from rfl, pk_mul, nI_add]
theorem l50 {i : Nat} : 5 * nI i = nI (5 * i) := by rw [show (5 : Int32) = nI 5 from rfl, pk_mul]
theorem l51 {i : Nat} : 5 * nI i + 1 = nI (5 * i + 1) := l5w (w := 1)
theorem l52 {i : Nat} : 5 * nI i + 2 = nI (5 * i + 2) := l5w (w := 2)
theorem l53 {i : Nat} : 5 * nI i + 3 = nI (5 * i + 3) := l5w (w := 3)
theorem l54 {i : Nat} : 5 * nI i + 4 = nI (5 * i + 4) := l5w (w := 4)
theorem l3w {i w : Nat} : 3 * nI i + nI w = nI (3 * i + w) := by rw [show (3 : Int32) = nI 3 from rfl, pk_mul, nI_add]
theorem l30 {i : Nat} : 3 * nI i = nI (3 * i) := by rw [show (3 : Int32) = nI 3 from rfl, pk_mul]
theorem l31 {i : Nat} : 3 * nI i + 1 = nI (3 * i + 1) := l3w (w := 1)
theorem l32 {i : Nat} : 3 * nI i + 2 = nI (3 * i + 2) := l3w (w := 2)
theorem EL0 {e s : FF} {n i : Nat} (h : EL e s n) (hi : i < n) : e (5 * i) = pL s i := h i 0 hi (by omega)
theorem EL1 {e s : FF} {n i : Nat} (h : EL e s n) (hi : i < n) : e (5 * i + 1) = pT s i := h i 1 hi (by omega)
theorem EL2 {e s : FF} {n i : Nat} (h : EL e s n) (hi : i < n) : e (5 * i + 2) = pK s i := h i 2 hi (by omega)
theorem EL3 {e s : FF} {n i : Nat} (h : EL e s n) (hi : i < n) : e (5 * i + 3) = pS s i := h i 3 hi (by omega)
theorem EL4 {e s : FF} {n i : Nat} (h : EL e s n) (hi : i < n) : e (5 * i + 4) = pB s i := h i 4 hi (by omega)
theorem FL0 {f s : FF} {m i : Nat} (h : FL f s m) (hi : i < m) : f (3 * i) = pfL s i := h i 0 hi (by omega)
theorem FL1 {f s : FF} {m i : Nat} (h : FL f s m) (hi : i < m) : f (3 * i + 1) = pfS s i := h i 1 hi (by omega)
theorem FL2 {f s : FF} {m i : Nat} (h : FL f s m) (hi : i < m) : f (3 * i + 2) = pfB s i := h i 2 hi (by omega)
/-- times are -1 or not below 0 -/
def TM (s : FF) (n : Nat) : Prop := ∀ i : Nat, i < n → pT s i = -1 ∨ ∃ t : Nat, t ≤ 3599 ∧ pT s i = nI t
theorem TM_p {s : FF} {n i : Nat} (h : TM s n) (hi : i < n) : (0 ≤ pT s i) = (pT s i ≠ -1) := by
  rcases h i hi with q | ⟨t, t1, q⟩
  · rw [q]
    exact propext ⟨fun h => absurd h (by decide), fun h => absurd rfl h⟩
  · rw [q, pos_n (by omega)]
    simp [ne1_n (a := t) (by omega)]
theorem TM_n {s : FF} {n i : Nat} (h : TM s n) (hi : i < n) : (pT s i < 0) = (pT s i = -1) := by
  rcases h i hi with q | ⟨t, t1, q⟩
  · rw [q]
    exact propext ⟨fun _ => rfl, fun _ => by decide⟩
  · rw [q, neg_n (by omega), ne1_n (by omega)]
theorem Lfx {g e s : FF} {n : Nat} (hn : n ≤ 6) (g0 : g 0 = nI n) (he : EL e s n) (ht : TM s n) {i : Nat} (hi : i ≤ n) : ∃ j : Nat, i ≤ j ∧ j ≤ n ∧ f_L_fixed g e (nI i) = some (nI j) ∧ (j < n → pS s j = 0 ∧ pT s j ≠ -1) ∧ ∀ k : Nat, i ≤ k → k < j → ¬ (pS s k = 0 ∧ pT s k ≠ -1) := by
  obtain ⟨r, h1, j, rfl, h3, h4, h5, h6⟩ := zl1 (f := s_L_fixed_2 g e)
    (fun k x => ∃ a : Nat, k = n - a ∧ x = nI a ∧ i ≤ a ∧ a ≤ n ∧ ∀ k : Nat, i ≤ k → k < a → ¬ (pS s k = 0 ∧ pT s k ≠ -1))
    (fun r => ∃ j : Nat, r = nI j ∧ i ≤ j ∧ j ≤ n ∧ (j < n → pS s j = 0 ∧ pT s j ≠ -1) ∧ ∀ k : Nat, i ≤ k → k < j → ¬ (pS s k = 0 ∧ pT s k ≠ -1))
    (by
      rintro k x ⟨a, rfl, rfl, ha, hb, hc⟩
      by_cases hl : n ≤ a
      · obtain rfl : a = n := by omega
        refine Or.inl ⟨nI a, ?_, a, rfl, ha, Nat.le_refl _, fun q => by omega, hc⟩
        unfold s_L_fixed_2
        rw [g0, if_pos (Int32.le_refl _)]
      · have hst : s_L_fixed_2 g e (nI a) = if pS s a = 0 then (if pT s a ≠ -1 then some (.inr (nI a)) else some (.inl (nI (a + 1)))) else some (.inl (nI (a + 1))) := by
          unfold s_L_fixed_2
          rw [g0, if_neg (by rw [nI_leI (by omega) (by omega)]; exact hl), l53, l51, if_pos (zin_n (by omega) (by omega)), if_pos (zin_n (by omega) (by omega)), cl_n (by omega), cl_n (by omega), EL3 he (by omega), EL1 he (by omega), nI_1]
          simp only [TM_p ht (show a < n by omega)]
        by_cases hs : pS s a = 0
        · by_cases hq : pT s a = -1
          · refine Or.inr ⟨n - (a + 1), nI (a + 1), by rw [hst, if_pos hs, if_neg (fun q => q hq)], by omega, a + 1, rfl, rfl, by omega, by omega, fun k h1 h2 => ?_⟩
            by_cases hk : k = a
            · subst hk; exact fun q => q.2 hq
            · exact hc k h1 (by omega)
          · exact Or.inl ⟨nI a, by rw [hst, if_pos hs, if_pos hq], a, rfl, ha, hb, fun _ => ⟨hs, hq⟩, hc⟩
        · refine Or.inr ⟨n - (a + 1), nI (a + 1), by rw [hst, if_neg hs], by omega, a + 1, rfl, rfl, by omega, by omega, fun k h1 h2 => ?_⟩
          by_cases hk : k = a
          · subst hk; exact fun q => hs q.1
          · exact hc k h1 (by omega))
    4096 (n - i) (nI i) (by omega) ⟨i, rfl, rfl, Nat.le_refl _, hi, fun k h1 h2 => by omega⟩
  refine ⟨j, h3, h4, ?_, h5, h6⟩
  unfold f_L_fixed
  rw [h1, Option.bind_some]
theorem nf_v {s : FF} {n i j j' : Nat} (hi : i ≤ j) (hi' : i ≤ j') (hj : j ≤ n) (hj' : j' ≤ n) (h1 : j < n → pS s j = 0 ∧ pT s j ≠ -1) (h2 : ∀ k : Nat, i ≤ k → k < j → ¬ (pS s k = 0 ∧ pT s k ≠ -1)) (k1 : j' < n → pS s j' = 0 ∧ pT s j' ≠ -1) (k2 : ∀ k : Nat, i ≤ k → k < j' → ¬ (pS s k = 0 ∧ pT s k ≠ -1)) : j' = j := by
  rcases Nat.lt_trichotomy j' j with h | h | h
  · exact absurd (k1 (by omega)) (h2 j' hi' h)
  · exact h
  · exact absurd (h1 (by omega)) (k2 j hi h)
theorem Ltm {g e s : FF} {n : Nat} (hn : n ≤ 6) (g0 : g 0 = nI n) (he : EL e s n) {j : Nat} (hj : j ≤ n) : ∃ t : Int32, f_L_timeAt g e (nI j) = some t ∧ (j < n → t = pT s j) ∧ (j = n → t = 3600) := by
  by_cases hl : j = n
  · subst hl
    refine ⟨3600, ?_, fun q => by omega, fun _ => rfl⟩
    unfold f_L_timeAt
    rw [g0, if_pos (Int32.le_refl _)]
  · refine ⟨pT s j, ?_, fun _ => rfl, fun q => by omega⟩
    unfold f_L_timeAt
    rw [g0, if_neg (by rw [nI_leI (by omega) (by omega)]; omega), l51, if_pos (zin_n (by omega) (by omega)), cl_n (by omega), EL1 he (by omega)]
theorem Lsm {e s : FF} {n : Nat} (hn : n ≤ 6) (he : EL e s n) {i j : Nat} (hij : i ≤ j) (hj : j ≤ n) : f_L_sum e (nI i) (nI j) = some (pSum (pS s) (pL s) (j - i) i 0) := by
  have h1 := zlF' (f := s_L_sum_5 e (nI j)) (fun a (x : Int32) => (x, nI a)) (fun x => (x, nI j)) (fun a x => if pS s a = 0 then x + pL s a else x) j
    (fun a x ha => by
      unfold s_L_sum_5
      dsimp only
      rw [if_neg (by rw [nI_leI (by omega) (by omega)]; omega), l53, l50, if_pos (zin_n (by omega) (by omega)), if_pos (zin_n (by omega) (by omega)), cl_n (by omega), cl_n (by omega), EL3 he (by omega), EL0 he (by omega), nI_1]
      by_cases hc : pS s a = 0
      · rw [if_pos hc, if_pos hc, Option.bind_some]
      · rw [if_neg hc, if_neg hc, Option.bind_some, Int32.add_zero])
    (fun x => by
      unfold s_L_sum_5
      dsimp only
      rw [if_pos (Int32.le_refl _)]) (j - i) i 0 4096 (by omega) (by omega)
  have h2 : zloop (s_L_sum_5 e (nI j)) 4096 (0, nI i) = some (pSum (pS s) (pL s) (j - i) i 0, nI j) := h1
  unfold f_L_sum
  rw [h2, Option.bind_some]
theorem Lin {g e s : FF} {n : Nat} (hn : n ≤ 6) (g0 : g 0 = nI n) (he : EL e s n) (p : Int32) : f_L_inStatus g e p = some (pCn (pS s) p n 0 0) := by
  have h1 := zlF' (f := s_L_inStatus_5 g e p) (fun a (x : Int32) => (x, nI a)) (fun x => (x, nI n)) (fun a x => if pS s a = p then x + 1 else x) n
    (fun a x ha => by
      unfold s_L_inStatus_5
      dsimp only
      rw [g0, if_neg (by rw [nI_leI (by omega) (by omega)]; omega), l53, if_pos (zin_n (by omega) (by omega)), cl_n (by omega), EL3 he (by omega), nI_1]
      by_cases hc : pS s a = p
      · rw [if_pos hc, if_pos hc, Option.bind_some]
      · rw [if_neg hc, if_neg hc, Option.bind_some, Int32.add_zero])
    (fun x => by
      unfold s_L_inStatus_5
      dsimp only
      rw [g0, if_pos (Int32.le_refl _)]) n 0 0 4096 (by omega) (by omega)
  have h2 : zloop (s_L_inStatus_5 g e p) 4096 (0, 0) = some (pCn (pS s) p n 0 0, nI n) := h1
  unfold f_L_inStatus
  rw [h2, Option.bind_some]
/-- the last of the least ranks below 9 of those that wait in [i, j) -/
def LOW (s : FF) (i j : Nat) (b : Int32) : Prop := (b = -1 ∧ ∀ a : Nat, i ≤ a → a < j → pS s a = 0 → ¬ (pK s a).toInt < 9) ∨ ∃ c : Nat, i ≤ c ∧ c < j ∧ b = nI c ∧ pS s c = 0 ∧ (pK s c).toInt < 9 ∧ ∀ a : Nat, i ≤ a → a < j → pS s a = 0 → (pK s c).toInt < (pK s a).toInt ∨ ((pK s c).toInt = (pK s a).toInt ∧ a ≤ c)
theorem LOW_u {s : FF} {i j : Nat} {b b' : Int32} (h : LOW s i j b) (h' : LOW s i j b') : b = b' := by
  rcases h with ⟨rfl, h⟩ | ⟨c, h1, h2, rfl, h3, h4, h5⟩
  · rcases h' with ⟨rfl, -⟩ | ⟨c', k1, k2, rfl, k3, k4, -⟩
    · rfl
    · exact absurd k4 (h c' k1 k2 k3)
  · rcases h' with ⟨rfl, h'⟩ | ⟨c', k1, k2, rfl, k3, k4, k5⟩
    · exact absurd h4 (h' c h1 h2 h3)
    · have a1 := h5 c' k1 k2 k3
      have a2 := k5 c h1 h2 h3
      have : c = c' := by omega
      rw [this]
theorem lowX {u : MV} {j : Nat} (hj : j ≤ 12) {b : Int32} (h : f_X7_lowest u (nI j) = some b) : LOW u.1 0 j b := by
  have h2 := zlF (f := s_X7_lowest_4 u (nI j)) (fun a (x : Int32) => (x, nI a)) (fun x => (x, nI j)) (fun a y => if pS u.1 a = 0 then (if 9 ≤ pK u.1 a then y else if y = -1 then nI a else if pK u.1 y.toNatClampNeg < pK u.1 a then y else nI a) else y) j
    (fun a y => a ≤ j ∧ (y = -1 ∨ ∃ c : Nat, c < j ∧ y = nI c))
    (fun a y ha hp => by
      refine ⟨?_, by omega, ?_⟩
      · by_cases hc : pS u.1 a = 0
        · by_cases hk : 9 ≤ pK u.1 a
          · simp [s_X7_lowest_4, le_n (a := j) (b := a) (by omega) (by omega), show ¬ j ≤ a by omega, x7waits (u := u) (i := a) (by omega), x7of2 (u := u) (i := a) (by omega), zb_d, hc, hk, nI_1]
          · rcases hp.2 with rfl | ⟨c, hcj, rfl⟩
            · simp [s_X7_lowest_4, le_n (a := j) (b := a) (by omega) (by omega), show ¬ j ≤ a by omega, x7waits (u := u) (i := a) (by omega), x7of2 (u := u) (i := a) (by omega), zb_d, hc, hk, nI_1]
            · by_cases hq : pK u.1 c < pK u.1 a <;> simp [s_X7_lowest_4, le_n (a := j) (b := a) (by omega) (by omega), show ¬ j ≤ a by omega, x7waits (u := u) (i := a) (by omega), x7of2 (u := u) (i := a) (by omega), x7of2 (u := u) (i := c) (by omega), zb_d, hc, hk, hq, ne1_n (a := c) (by omega), cl_n (a := c) (by omega), nI_1]
        · simp [s_X7_lowest_4, le_n (a := j) (b := a) (by omega) (by omega), show ¬ j ≤ a by omega, x7waits (u := u) (i := a) (by omega), zb_d, hc, nI_1]
      · have h3 : ∃ c : Nat, c < j ∧ nI a = nI c := ⟨a, ha, rfl⟩
        split
        · split
          · exact hp.2
          · split
            · exact Or.inr h3
            · split
              · exact hp.2
              · exact Or.inr h3
        · exact hp.2)
    (fun x _ => by simp [s_X7_lowest_4]) j 0 (-1) 4096 (by omega) (by omega) ⟨by omega, Or.inl rfl⟩
  obtain ⟨y, hy⟩ : ∃ y : Int32, y = pF (fun a y => if pS u.1 a = 0 then (if 9 ≤ pK u.1 a then y else if y = -1 then nI a else if pK u.1 y.toNatClampNeg < pK u.1 a then y else nI a) else y) j 0 (-1) := ⟨_, rfl⟩
  rw [← hy] at h2
  have h2' : zloop (s_X7_lowest_4 u (nI j)) 4096 (-1, 0) = some (y, nI j) := h2
  have hby : b = y := by
    unfold f_X7_lowest at h
    rw [h2', Option.bind_some] at h
    exact (Option.some.inj h).symm
  have hI := pF_ind (G := fun a (y : Int32) => if pS u.1 a = 0 then (if 9 ≤ pK u.1 a then y else if y = -1 then nI a else if pK u.1 y.toNatClampNeg < pK u.1 a then y else nI a) else y) (fun a y => LOW u.1 0 a y) j 0 (-1) (Or.inl ⟨rfl, fun a _ h => absurd h (Nat.not_lt_zero _)⟩) (fun a y h1 h2 h3 => by
    show LOW u.1 0 (a + 1) (if pS u.1 a = 0 then (if 9 ≤ pK u.1 a then y else if y = -1 then nI a else if pK u.1 y.toNatClampNeg < pK u.1 a then y else nI a) else y)
    by_cases hs : pS u.1 a = 0
    · rw [if_pos hs]
      by_cases hk : 9 ≤ pK u.1 a
      · rw [if_pos hk]
        rw [Int32.le_iff_toInt_le, show (9 : Int32).toInt = 9 from rfl] at hk
        rcases h3 with ⟨q1, q2⟩ | ⟨c, q1, q2, q3, q4, q5, q6⟩
        · refine Or.inl ⟨q1, fun i i1 i2 i3 => ?_⟩
          by_cases hia : i = a
          · subst hia; omega
          · exact q2 i i1 (by omega) i3
        · refine Or.inr ⟨c, q1, by omega, q3, q4, q5, fun i i1 i2 i3 => ?_⟩
          by_cases hia : i = a
          · subst hia; omega
          · exact q6 i i1 (by omega) i3
      · rw [if_neg hk]
        rw [Int32.le_iff_toInt_le, show (9 : Int32).toInt = 9 from rfl] at hk
        rcases h3 with ⟨q1, q2⟩ | ⟨c, q1, q2, q3, q4, q5, q6⟩
        · rw [if_pos q1]
          refine Or.inr ⟨a, by omega, by omega, rfl, hs, by omega, fun i i1 i2 i3 => ?_⟩
          by_cases hia : i = a
          · subst hia; omega
          · have := q2 i i1 (by omega) i3
            omega
        · have hne : ¬ y = -1 := by rw [q3]; exact of_eq_false (ne1_n (by omega))
          rw [if_neg hne, q3, cl_n (by omega)]
          by_cases hlt : pK u.1 c < pK u.1 a
          · rw [if_pos hlt]
            rw [Int32.lt_iff_toInt_lt] at hlt
            refine Or.inr ⟨c, q1, by omega, rfl, q4, q5, fun i i1 i2 i3 => ?_⟩
            by_cases hia : i = a
            · subst hia; omega
            · exact q6 i i1 (by omega) i3
          · rw [if_neg hlt]
            rw [Int32.lt_iff_toInt_lt] at hlt
            refine Or.inr ⟨a, by omega, by omega, rfl, hs, by omega, fun i i1 i2 i3 => ?_⟩
            by_cases hia : i = a
            · subst hia; omega
            · have := q6 i i1 (by omega) i3
              omega
    · rw [if_neg hs]
      rcases h3 with ⟨q1, q2⟩ | ⟨c, q1, q2, q3, q4, q5, q6⟩
      · refine Or.inl ⟨q1, fun i i1 i2 i3 => ?_⟩
        by_cases hia : i = a
        · subst hia; exact absurd i3 hs
        · exact q2 i i1 (by omega) i3
      · refine Or.inr ⟨c, q1, by omega, q3, q4, q5, fun i i1 i2 i3 => ?_⟩
        by_cases hia : i = a
        · subst hia; exact absurd i3 hs
        · exact q6 i i1 (by omega) i3)
  rw [Nat.zero_add, ← hy] at hI
  rw [hby]
  exact hI
