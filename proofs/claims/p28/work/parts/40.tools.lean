/-! The pure part: loops alone and in step, rows of numbers. -/
theorem zl_r {σ ρ : Type} {f : σ → Option (σ ⊕ ρ)} {x : σ} {r : ρ} (h : f x = some (.inr r)) (n : Nat) : zloop f (n + 1) x = some r := by
  simp [zloop, h]
theorem zl_l {σ ρ : Type} {f : σ → Option (σ ⊕ ρ)} {x y : σ} (h : f x = some (.inl y)) (n : Nat) : zloop f (n + 1) x = zloop f n y := by
  simp [zloop, h]
theorem zl1 {σ ρ : Type} {f : σ → Option (σ ⊕ ρ)} (I : Nat → σ → Prop) (Q : ρ → Prop)
    (hs : ∀ (k : Nat) (x : σ), I k x → (∃ r, f x = some (.inr r) ∧ Q r) ∨ (∃ k' x', f x = some (.inl x') ∧ k' < k ∧ I k' x')) :
    ∀ (n k : Nat) (x : σ), k < n → I k x → ∃ r, zloop f n x = some r ∧ Q r := by
  intro n
  induction n with
  | zero => intro k x hk; exact absurd hk (Nat.not_lt_zero _)
  | succ n ih =>
    intro k x hk hI
    rcases hs k x hI with ⟨r, h1, h2⟩ | ⟨k', x', h1, h2, h3⟩
    · exact ⟨r, zl_r h1 n, h2⟩
    · rw [zl_l h1 n]
      exact ih k' x' (by omega) h3
theorem zl2 {σ ρ σ' ρ' : Type} {f : σ → Option (σ ⊕ ρ)} {g : σ' → Option (σ' ⊕ ρ')} (I : Nat → σ → σ' → Prop) (Q : ρ → ρ' → Prop)
    (hs : ∀ (k : Nat) (x : σ) (y : σ'), I k x y → (∃ r r', f x = some (.inr r) ∧ g y = some (.inr r') ∧ Q r r') ∨ (∃ k' x' y', f x = some (.inl x') ∧ g y = some (.inl y') ∧ k' < k ∧ I k' x' y')) :
    ∀ (n m k : Nat) (x : σ) (y : σ'), k < n → k < m → I k x y → ∃ r r', zloop f n x = some r ∧ zloop g m y = some r' ∧ Q r r' := by
  intro n
  induction n with
  | zero => intro m k x y hk; exact absurd hk (Nat.not_lt_zero _)
  | succ n ih =>
    intro m k x y hk hm hI
    cases m with
    | zero => exact absurd hm (Nat.not_lt_zero _)
    | succ m =>
      rcases hs k x y hI with ⟨r, r', h1, h2, h3⟩ | ⟨k', x', y', h1, h2, h3, h4⟩
      · exact ⟨r, r', zl_r h1 n, zl_r h2 m, h3⟩
      · rw [zl_l h1 n, zl_l h2 m]
        exact ih m k' x' y' (by omega) (by omega) h4
theorem zin_n {i N : Nat} (h : i < N) (hN : N ≤ 1000) : zin (nI i) N = true := by
  have h1 := vp_in_nI (n := i) (N := N) h (by omega)
  exact decide_eq_true h1
theorem le_n {a b : Nat} (ha : a < 100000) (hb : b < 100000) : (nI a ≤ nI b) = (a ≤ b) := propext (nI_leI (by omega) (by omega))
theorem lt_n {a b : Nat} (ha : a < 100000) (hb : b < 100000) : (nI a < nI b) = (a < b) := propext (nI_ltI (by omega) (by omega))
theorem cl_n {a : Nat} (ha : a < 100000) : (nI a).toNatClampNeg = a := nI_clamp (by omega)
theorem neg_n {a : Nat} (ha : a < 100000) : (nI a < 0) = False := eq_false (fun h => by
  have h1 : nI a < nI 0 := h
  rw [nI_ltI (by omega) (by omega)] at h1
  omega)
theorem pos_n {a : Nat} (ha : a < 100000) : (0 ≤ nI a) = True := eq_true (by
  show nI 0 ≤ nI a
  rw [nI_leI (by omega) (by omega)]
  omega)
theorem ne1_n {a : Nat} (ha : a < 100000) : (nI a = -1) = False := eq_false (fun h => by
  have h1 := congrArg Int32.toInt h
  rw [nI_toInt (by omega)] at h1
  have h2 : (-1 : Int32).toInt = -1 := rfl
  omega)
/-- the reference's row of an hour: an element's length, time, rank, status, second of its begin -/
def pL (s : FF) (i : Nat) : Int32 := s (10 + 5 * i)
def pT (s : FF) (i : Nat) : Int32 := s (10 + 5 * i + 1)
def pK (s : FF) (i : Nat) : Int32 := s (10 + 5 * i + 2)
def pS (s : FF) (i : Nat) : Int32 := s (10 + 5 * i + 3)
def pB (s : FF) (i : Nat) : Int32 := s (10 + 5 * i + 4)
/-- a filler's length, status, second of its begin -/
def pfL (s : FF) (i : Nat) : Int32 := s (70 + 3 * i)
def pfS (s : FF) (i : Nat) : Int32 := s (70 + 3 * i + 1)
def pfB (s : FF) (i : Nat) : Int32 := s (70 + 3 * i + 2)
theorem x7i {i w : Nat} : (10 + (5 * nI i)) + nI w = nI (10 + 5 * i + w) := by
  rw [show (10 : Int32) = nI 10 from rfl, show (5 : Int32) = nI 5 from rfl, pk_mul, nI_add, nI_add]
theorem x7j {i w : Nat} : (70 + (3 * nI i)) + nI w = nI (70 + 3 * i + w) := by
  rw [show (70 : Int32) = nI 70 from rfl, show (3 : Int32) = nI 3 from rfl, pk_mul, nI_add, nI_add]
theorem x7of {u : MV} {i w : Nat} (hi : i ≤ 12) (hw : w < 5) : f_X7_of u (nI i) (nI w) = some (u.1 (10 + 5 * i + w)) := by
  unfold f_X7_of
  rw [x7i, if_pos (zin_n (by omega) (by omega)), cl_n (by omega)]
theorem x7ofF {u : MV} {i w : Nat} (hi : i ≤ 10) (hw : w < 3) : f_X7_ofFiller u (nI i) (nI w) = some (u.1 (70 + 3 * i + w)) := by
  unfold f_X7_ofFiller
  rw [x7j, if_pos (zin_n (by omega) (by omega)), cl_n (by omega)]
theorem x7of0 {u : MV} {i : Nat} (hi : i ≤ 12) : f_X7_of u (nI i) 0 = some (pL u.1 i) := x7of (w := 0) hi (by omega)
theorem x7of1 {u : MV} {i : Nat} (hi : i ≤ 12) : f_X7_of u (nI i) 1 = some (pT u.1 i) := x7of (w := 1) hi (by omega)
theorem x7of2 {u : MV} {i : Nat} (hi : i ≤ 12) : f_X7_of u (nI i) 2 = some (pK u.1 i) := x7of (w := 2) hi (by omega)
theorem x7of3 {u : MV} {i : Nat} (hi : i ≤ 12) : f_X7_of u (nI i) 3 = some (pS u.1 i) := x7of (w := 3) hi (by omega)
theorem x7of4 {u : MV} {i : Nat} (hi : i ≤ 12) : f_X7_of u (nI i) 4 = some (pB u.1 i) := x7of (w := 4) hi (by omega)
theorem x7f0 {u : MV} {i : Nat} (hi : i ≤ 10) : f_X7_ofFiller u (nI i) 0 = some (pfL u.1 i) := x7ofF (w := 0) hi (by omega)
theorem x7f1 {u : MV} {i : Nat} (hi : i ≤ 10) : f_X7_ofFiller u (nI i) 1 = some (pfS u.1 i) := x7ofF (w := 1) hi (by omega)
theorem x7f2 {u : MV} {i : Nat} (hi : i ≤ 10) : f_X7_ofFiller u (nI i) 2 = some (pfB u.1 i) := x7ofF (w := 2) hi (by omega)
theorem zb_d (c : Bool) : (zb c = 0) = (c = false) := by cases c <;> decide
theorem x7waits {u : MV} {i : Nat} (hi : i ≤ 12) : f_X7_waits u (nI i) = some (decide (pS u.1 i = 0)) := by
  unfold f_X7_waits
  rw [x7of3 hi]
  by_cases h : pS u.1 i = 0 <;> simp [h]
theorem x7fixed {u : MV} {i : Nat} (hi : i ≤ 12) : f_X7_isFixed u (nI i) = some (decide (pT u.1 i ≠ -1)) := by
  unfold f_X7_isFixed
  rw [x7of1 hi]
  by_cases h : pT u.1 i = -1 <;> simp [h]
/-- the elements of an hour and of a row -/
def ER (e : EV) (s : FF) (n : Nat) : Prop := n ≤ 12 ∧ e.1 = nI n ∧ s 7 = nI n ∧ ∀ i : Nat, i < n → e.2.1 i = pL s i ∧ e.2.2.1 i = pT s i ∧ e.2.2.2.1 i = pK s i ∧ e.2.2.2.2.1 i = pS s i ∧ e.2.2.2.2.2 i = pB s i
theorem x0has {e : EV} {s : FF} {n : Nat} (h : ER e s n) (i : Int32) : (f_X0_has e i = some true ∧ ∃ j : Nat, j < n ∧ i = nI j) ∨ (f_X0_has e i = some false ∧ ∀ j : Nat, j < n → i ≠ nI j) := by
  unfold f_X0_has
  by_cases h0 : i < 0
  · rw [if_pos h0]
    refine Or.inr ⟨rfl, fun j hj he => ?_⟩
    rw [he, neg_n (by have := h.1; omega)] at h0
    exact h0
  · rw [if_neg h0]
    obtain ⟨j, hj, rfl⟩ := nI_of h0
    rw [h.2.1]
    by_cases h1 : nI n ≤ nI j
    · rw [if_pos h1]
      rw [nI_leI (by have := h.1; omega) hj] at h1
      exact Or.inr ⟨rfl, fun k hk he => by rw [nI_eq hj (by have := h.1; omega)] at he; omega⟩
    · rw [if_neg h1]
      rw [nI_leI (by have := h.1; omega) hj] at h1
      exact Or.inl ⟨rfl, j, by omega, rfl⟩
theorem x7isE {u : MV} {e : EV} {n : Nat} (h : ER e u.1 n) (i : Int32) : f_X7_isElement u i = f_X0_has e i := by
  unfold f_X7_isElement f_X0_has
  rw [h.2.1, h.2.2.1]
theorem nf2 {e : EV} {u : MV} {n : Nat} (h : ER e u.1 n) {i : Nat} (hi : i ≤ n) : ∃ j : Nat, i ≤ j ∧ j ≤ n ∧ f_X0_nextFixed e (nI i) = some (nI j) ∧ f_X7_nextFixed u (nI i) = some (nI j) ∧ (j < n → pS u.1 j = 0 ∧ pT u.1 j ≠ -1) ∧ ∀ k : Nat, i ≤ k → k < j → ¬ (pS u.1 k = 0 ∧ pT u.1 k ≠ -1) := by
  have hn := h.1
  obtain ⟨r, r', h1, h2, j, rfl, rfl, h3, h4, h5, h6⟩ := zl2 (f := s_X0_nextFixed_10 e) (g := s_X7_nextFixed_2 u)
    (fun k x y => ∃ a : Nat, k = n - a ∧ x = nI a ∧ y = nI a ∧ i ≤ a ∧ a ≤ n ∧ ∀ k : Nat, i ≤ k → k < a → ¬ (pS u.1 k = 0 ∧ pT u.1 k ≠ -1))
    (fun r r' => ∃ j : Nat, r = nI j ∧ r' = nI j ∧ i ≤ j ∧ j ≤ n ∧ (j < n → pS u.1 j = 0 ∧ pT u.1 j ≠ -1) ∧ ∀ k : Nat, i ≤ k → k < j → ¬ (pS u.1 k = 0 ∧ pT u.1 k ≠ -1))
    (by
      rintro k x y ⟨a, rfl, rfl, rfl, ha, hb, hc⟩
      by_cases hl : n ≤ a
      · obtain rfl : a = n := by omega
        refine Or.inl ⟨nI a, nI a, ?_, ?_, a, rfl, rfl, ha, Nat.le_refl _, fun q => by omega, hc⟩
        · simp [s_X0_nextFixed_10, h.2.1]
        · simp [s_X7_nextFixed_2, h.2.2.1]
      · obtain ⟨-, e2, -, e4, -⟩ := h.2.2.2 a (by omega)
        by_cases hs : pS u.1 a = 0
        · by_cases ht : pT u.1 a = -1
          · refine Or.inr ⟨n - (a + 1), nI (a + 1), nI (a + 1), ?_, ?_, by omega, a + 1, rfl, rfl, rfl, by omega, by omega, fun k h1 h2 => ?_⟩
            · simp [s_X0_nextFixed_10, h.2.1, le_n (a := n) (b := a) (by omega) (by omega), hl, zin_n (i := a) (N := 12) (by omega) (by omega), cl_n (a := a) (by omega), e2, e4, hs, ht, nI_1]
            · simp [s_X7_nextFixed_2, h.2.2.1, le_n (a := n) (b := a) (by omega) (by omega), hl, x7waits (u := u) (i := a) (by omega), x7fixed (u := u) (i := a) (by omega), hs, ht, zb_d, nI_1]
            · by_cases hk : k = a
              · subst hk; exact fun q => q.2 ht
              · exact hc k h1 (by omega)
          · refine Or.inl ⟨nI a, nI a, ?_, ?_, a, rfl, rfl, ha, hb, fun _ => ⟨hs, ht⟩, hc⟩
            · simp [s_X0_nextFixed_10, h.2.1, le_n (a := n) (b := a) (by omega) (by omega), hl, zin_n (i := a) (N := 12) (by omega) (by omega), cl_n (a := a) (by omega), e2, e4, hs, ht, nI_1]
            · simp [s_X7_nextFixed_2, h.2.2.1, le_n (a := n) (b := a) (by omega) (by omega), hl, x7waits (u := u) (i := a) (by omega), x7fixed (u := u) (i := a) (by omega), hs, ht, zb_d, nI_1]
        · refine Or.inr ⟨n - (a + 1), nI (a + 1), nI (a + 1), ?_, ?_, by omega, a + 1, rfl, rfl, rfl, by omega, by omega, fun k h1 h2 => ?_⟩
          · simp [s_X0_nextFixed_10, h.2.1, le_n (a := n) (b := a) (by omega) (by omega), hl, zin_n (i := a) (N := 12) (by omega) (by omega), cl_n (a := a) (by omega), e2, e4, hs, nI_1]
          · simp [s_X7_nextFixed_2, h.2.2.1, le_n (a := n) (b := a) (by omega) (by omega), hl, x7waits (u := u) (i := a) (by omega), hs, zb_d, nI_1]
          · by_cases hk : k = a
            · subst hk; exact fun q => hs q.1
            · exact hc k h1 (by omega))
    4096 4096 (n - i) (nI i) (nI i) (by omega) (by omega) ⟨i, rfl, rfl, rfl, Nat.le_refl _, hi, fun k h1 h2 => by omega⟩
  refine ⟨j, h3, h4, ?_, ?_, h5, h6⟩
  · unfold f_X0_nextFixed
    rw [if_pos (of_eq_true (pos_n (by omega)))]
    exact h1
  · unfold f_X7_nextFixed
    rw [h2]
    rfl
