/-! The pure part: loops over an index, as folds. -/
def pF {α : Type} (G : Nat → α → α) : Nat → Nat → α → α
  | 0, _, x => x
  | k + 1, i, x => pF G k (i + 1) (G i x)
theorem pF_rel {α β : Type} (R : α → β → Prop) {G : Nat → α → α} {H : Nat → β → β} : ∀ (k i : Nat) (x : α) (y : β), R x y → (∀ (a : Nat) (x : α) (y : β), i ≤ a → a < i + k → R x y → R (G a x) (H a y)) → R (pF G k i x) (pF H k i y) := by
  intro k
  induction k with
  | zero => intro i x y h _; exact h
  | succ k ih =>
    intro i x y h hs
    exact ih (i + 1) _ _ (hs i x y (Nat.le_refl _) (by omega) h) (fun a x y h1 h2 h3 => hs a x y (by omega) (by omega) h3)
theorem pF_cong {α : Type} {G H : Nat → α → α} (k i : Nat) (x : α) (h : ∀ (a : Nat) (x : α), i ≤ a → a < i + k → G a x = H a x) : pF G k i x = pF H k i x :=
  pF_rel (fun x y => x = y) k i x x rfl (fun a x y h1 h2 h3 => by rw [h3]; exact h a y h1 h2)
theorem pF_ind {α : Type} {G : Nat → α → α} (P : Nat → α → Prop) : ∀ (k i : Nat) (x : α), P i x → (∀ (a : Nat) (x : α), i ≤ a → a < i + k → P a x → P (a + 1) (G a x)) → P (i + k) (pF G k i x) := by
  intro k
  induction k with
  | zero => intro i x h _; exact h
  | succ k ih =>
    intro i x h hs
    have h1 := ih (i + 1) _ (hs i x (Nat.le_refl _) (by omega) h) (fun a x h1 h2 h3 => hs a x (by omega) (by omega) h3)
    rw [show i + (k + 1) = i + 1 + k by omega]
    exact h1
theorem zlF {σ ρ α : Type} {f : σ → Option (σ ⊕ ρ)} (mk : Nat → α → σ) (out : α → ρ) (G : Nat → α → α) (N : Nat) (P : Nat → α → Prop)
    (hs : ∀ (a : Nat) (x : α), a < N → P a x → f (mk a x) = some (.inl (mk (a + 1) (G a x))) ∧ P (a + 1) (G a x))
    (he : ∀ x : α, P N x → f (mk N x) = some (.inr (out x))) :
    ∀ (k i : Nat) (x : α) (n : Nat), i + k = N → k < n → P i x → zloop f n (mk i x) = some (out (pF G k i x)) := by
  intro k
  induction k with
  | zero =>
    intro i x n hi hn hp
    obtain rfl : i = N := by omega
    cases n with
    | zero => omega
    | succ n => exact zl_r (he x hp) n
  | succ k ih =>
    intro i x n hi hn hp
    cases n with
    | zero => omega
    | succ n =>
      obtain ⟨h1, h2⟩ := hs i x (by omega) hp
      rw [zl_l h1 n]
      exact ih (i + 1) _ n (by omega) (by omega) h2
theorem zlF' {σ ρ α : Type} {f : σ → Option (σ ⊕ ρ)} (mk : Nat → α → σ) (out : α → ρ) (G : Nat → α → α) (N : Nat)
    (hs : ∀ (a : Nat) (x : α), a < N → f (mk a x) = some (.inl (mk (a + 1) (G a x))))
    (he : ∀ x : α, f (mk N x) = some (.inr (out x))) (k i : Nat) (x : α) (n : Nat) (hi : i + k = N) (hn : k < n) : zloop f n (mk i x) = some (out (pF G k i x)) :=
  zlF mk out G N (fun _ _ => True) (fun a x h _ => ⟨hs a x h, trivial⟩) (fun x _ => he x) k i x n hi hn trivial
/-- how many of the first n are in a status -/
def pCn (f : Nat → Int32) (p : Int32) (k i : Nat) (x : Int32) : Int32 := pF (fun a x => if f a = p then x + 1 else x) k i x
/-- the sum of the lengths of those that wait -/
def pSum (st le : Nat → Int32) (k i : Nat) (x : Int32) : Int32 := pF (fun a x => if st a = 0 then x + le a else x) k i x
theorem cn0 {e : EV} {s : FF} {n : Nat} (h : ER e s n) (p : Int32) : f_X0_countThatAre e p = some (pCn (pS s) p n 0 0) := by
  have hn := h.1
  unfold f_X0_countThatAre
  have h1 := zlF' (f := s_X0_countThatAre_4 e p) (fun a (x : Int32) => (x, nI a)) (fun x => (x, nI n)) (fun a x => if pS s a = p then x + 1 else x) n
    (fun a x ha => by
      obtain ⟨-, -, -, e4, -⟩ := h.2.2.2 a ha
      by_cases hc : pS s a = p <;> simp [s_X0_countThatAre_4, h.2.1, le_n (a := n) (b := a) (by omega) (by omega), show ¬ n ≤ a by omega, zin_n (i := a) (N := 12) (by omega) (by omega), cl_n (a := a) (by omega), e4, hc, nI_1])
    (fun x => by simp [s_X0_countThatAre_4, h.2.1]) n 0 0 4096 (by omega) (by omega)
  have h2 : zloop (s_X0_countThatAre_4 e p) 4096 (0, 0) = some (pF (fun a x => if pS s a = p then x + 1 else x) n 0 0, nI n) := h1
  rw [h2]
  rfl
theorem cn7 {u : MV} {n : Nat} (hn : n ≤ 12) (h7 : u.1 7 = nI n) (p : Int32) : f_X7_inStatus u p = some (pCn (pS u.1) p n 0 0) := by
  unfold f_X7_inStatus
  have h1 := zlF' (f := s_X7_inStatus_4 u p) (fun a (x : Int32) => (x, nI a)) (fun x => (x, nI n)) (fun a x => if pS u.1 a = p then x + 1 else x) n
    (fun a x ha => by
      by_cases hc : pS u.1 a = p <;> simp [s_X7_inStatus_4, h7, le_n (a := n) (b := a) (by omega) (by omega), show ¬ n ≤ a by omega, x7of3 (u := u) (i := a) (by omega), hc, nI_1])
    (fun x => by simp [s_X7_inStatus_4, h7]) n 0 0 4096 (by omega) (by omega)
  have h2 : zloop (s_X7_inStatus_4 u p) 4096 (0, 0) = some (pF (fun a x => if pS u.1 a = p then x + 1 else x) n 0 0, nI n) := h1
  rw [h2]
  rfl
theorem wl0 {e : EV} {s : FF} {n : Nat} (h : ER e s n) {i j : Nat} (hij : i ≤ j) (hj : j ≤ n) : f_X0_waitingLength e (nI i) (nI j) = some (pSum (pS s) (pL s) (j - i) i 0) := by
  have hn := h.1
  unfold f_X0_waitingLength
  rw [if_pos (of_eq_true (pos_n (by omega)))]
  have h1 := zlF' (f := s_X0_waitingLength_13 e (nI j)) (fun a (x : Int32) => (x, nI a)) (fun x => (x, nI j)) (fun a x => if pS s a = 0 then x + pL s a else x) j
    (fun a x ha => by
      obtain ⟨e1, -, -, e4, -⟩ := h.2.2.2 a (by omega)
      by_cases hc : pS s a = 0 <;> simp [s_X0_waitingLength_13, h.2.1, le_n (a := n) (b := a) (by omega) (by omega), le_n (a := j) (b := a) (by omega) (by omega), show ¬ j ≤ a by omega, show ¬ n ≤ a by omega, zin_n (i := a) (N := 12) (by omega) (by omega), cl_n (a := a) (by omega), e1, e4, hc, nI_1])
    (fun x => by simp [s_X0_waitingLength_13, h.2.1]) (j - i) i 0 4096 (by omega) (by omega)
  have h2 : zloop (s_X0_waitingLength_13 e (nI j)) 4096 (0, nI i) = some (pF (fun a x => if pS s a = 0 then x + pL s a else x) (j - i) i 0, nI j) := h1
  rw [h2]
  rfl
theorem wl7 {u : MV} {j : Nat} (hj : j ≤ 12) : f_X7_sectionLength u (nI j) = some (pSum (pS u.1) (pL u.1) j 0 0) := by
  unfold f_X7_sectionLength
  have h1 := zlF' (f := s_X7_sectionLength_4 u (nI j)) (fun a (x : Int32) => (x, nI a)) (fun x => (x, nI j)) (fun a x => if pS u.1 a = 0 then x + pL u.1 a else x) j
    (fun a x ha => by
      by_cases hc : pS u.1 a = 0 <;> simp [s_X7_sectionLength_4, le_n (a := j) (b := a) (by omega) (by omega), show ¬ j ≤ a by omega, x7waits (u := u) (i := a) (by omega), x7of0 (u := u) (i := a) (by omega), zb_d, hc, nI_1])
    (fun x => by simp [s_X7_sectionLength_4]) j 0 0 4096 (by omega) (by omega)
  have h2 : zloop (s_X7_sectionLength_4 u (nI j)) 4096 (0, 0) = some (pF (fun a x => if pS u.1 a = 0 then x + pL u.1 a else x) j 0 0, nI j) := h1
  rw [h2]
  rfl
theorem tm2 {e : EV} {u : MV} {n : Nat} (h : ER e u.1 n) {j : Nat} (hj : j ≤ n) : ∃ t : Int32, f_X0_timeOrHourEnd e (nI j) = some t ∧ f_X7_timeAt u (nI j) = some t ∧ (j < n → t = pT u.1 j) ∧ (j = n → t = 3600) := by
  have hn := h.1
  by_cases hl : j = n
  · subst hl
    refine ⟨3600, ?_, ?_, fun q => by omega, fun _ => rfl⟩
    · simp [f_X0_timeOrHourEnd, f_X0_has, neg_n (a := j) (by omega), h.2.1, zb_f]
    · simp [f_X7_timeAt, h.2.2.1]
  · obtain ⟨-, e2, -⟩ := h.2.2.2 j (by omega)
    refine ⟨pT u.1 j, ?_, ?_, fun _ => rfl, fun q => by omega⟩
    · simp [f_X0_timeOrHourEnd, f_X0_has, neg_n (a := j) (by omega), h.2.1, le_n (a := n) (b := j) (by omega) (by omega), show ¬ n ≤ j by omega, zb_t, zin_n (i := j) (N := 12) (by omega) (by omega), cl_n (a := j) (by omega), e2]
    · have hne : ¬ nI j = nI n := by rw [nI_eq (by omega) (by omega)]; exact hl
      simp [f_X7_timeAt, h.2.2.1, hne, x7of1 (u := u) (i := j) (by omega)]
theorem goal2 {e : EV} {u : MV} {n : Nat} (h : ER e u.1 n) : ∃ (j : Nat) (t : Int32), j ≤ n ∧ f_X0_nextFixed e 0 = some (nI j) ∧ f_X7_nextFixed u 0 = some (nI j) ∧ f_X0_timeOrHourEnd e (nI j) = some t ∧ f_X7_timeAt u (nI j) = some t ∧ f_X0_goal e = some t ∧ f_X7_goal u = some t ∧ (j < n → t = pT u.1 j ∧ pS u.1 j = 0 ∧ pT u.1 j ≠ -1) ∧ (j = n → t = 3600) ∧ ∀ k : Nat, k < j → ¬ (pS u.1 k = 0 ∧ pT u.1 k ≠ -1) := by
  obtain ⟨j, -, h2, h3, h4, h5, h6⟩ := nf2 h (Nat.zero_le n)
  obtain ⟨t, k1, k2, k3, k4⟩ := tm2 h h2
  have h3' : f_X0_nextFixed e 0 = some (nI j) := h3
  have h4' : f_X7_nextFixed u 0 = some (nI j) := h4
  refine ⟨j, t, h2, h3', h4', k1, k2, ?_, ?_, fun q => ⟨k3 q, h5 q⟩, k4, fun k hk => h6 k (Nat.zero_le _) hk⟩
  · simp [f_X0_goal, h3', k1]
  · simp [f_X7_goal, h4', k2]
theorem sl2 {e : EV} {u : MV} {n : Nat} (h : ER e u.1 n) {j : Nat} (hj : j ≤ n) (h0 : f_X0_nextFixed e 0 = some (nI j)) : f_X0_sectionLength e = some (pSum (pS u.1) (pL u.1) j 0 0) ∧ f_X7_sectionLength u (nI j) = some (pSum (pS u.1) (pL u.1) j 0 0) := by
  have h1 := wl0 h (Nat.zero_le j) hj
  have h2 : f_X0_waitingLength e 0 (nI j) = some (pSum (pS u.1) (pL u.1) (j - 0) 0 0) := h1
  rw [Nat.sub_zero] at h2
  refine ⟨?_, wl7 (by have := h.1; omega)⟩
  simp [f_X0_sectionLength, h0, h2]
