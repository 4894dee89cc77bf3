/-! The pure part: the fillers and the log. -/
theorem x_or (a b : Nat) : nI a ||| nI b = nI (a ||| b) := by
  apply Int32.toBitVec_inj.mp
  rw [Int32.toBitVec_or]
  show BitVec.ofNat 32 a ||| BitVec.ofNat 32 b = BitVec.ofNat 32 (a ||| b)
  exact BitVec.ofNat_or.symm
theorem x_xor (a b : Nat) : nI a ^^^ nI b = nI (a ^^^ b) := by
  apply Int32.toBitVec_inj.mp
  rw [Int32.toBitVec_xor]
  show BitVec.ofNat 32 a ^^^ BitVec.ofNat 32 b = BitVec.ofNat 32 (a ^^^ b)
  exact BitVec.ofNat_xor.symm
theorem x_and (a b : Nat) : nI a &&& nI b = nI (a &&& b) := by
  apply Int32.toBitVec_inj.mp
  rw [Int32.toBitVec_and]
  show BitVec.ofNat 32 a &&& BitVec.ofNat 32 b = BitVec.ofNat 32 (a &&& b)
  exact BitVec.ofNat_and.symm
theorem x_sl : ∀ n, n < 32 → ((nI n &&& 31).toBitVec.smod 32).toNat = n := by decide +kernel
theorem x_sh : ∀ a, a < 13 → (1 : Int32) <<< (nI a &&& 31) = nI (2 ^ a) := by decide +kernel
theorem x_bit {M a : Nat} (hM : M < 2 ^ 31) (ha : a < 32) : (nI M >>> (nI a &&& 31)) &&& 1 = nI (M / 2 ^ a % 2) := by
  rw [pk_shrN hM _ a (x_sl a ha), pk_andN (Nat.lt_of_le_of_lt (Nat.div_le_self _ _) (by omega)) 1 rfl, Nat.pow_one]
/-- how many bits below ten -/
def pPop (M : Nat) : Nat := M / 2 ^ 0 % 2 + M / 2 ^ 1 % 2 + M / 2 ^ 2 % 2 + M / 2 ^ 3 % 2 + M / 2 ^ 4 % 2 + M / 2 ^ 5 % 2 + M / 2 ^ 6 % 2 + M / 2 ^ 7 % 2 + M / 2 ^ 8 % 2 + M / 2 ^ 9 % 2
theorem ones7 {M : Nat} (hM : M < 2 ^ 31) : f_X7_ones (nI M) = some (nI (pPop M)) := by
  unfold f_X7_ones
  have h1 := zlF' (f := s_X7_ones_4 (nI M)) (fun a (x : Nat) => (nI x, nI a)) (fun x => (nI x, nI 10)) (fun a x => x + M / 2 ^ a % 2) 10
    (fun a x ha => by
      have h10 : ((10 : Int32) ≤ nI a) = (10 ≤ a) := le_n (a := 10) (by omega) (by omega)
      simp [s_X7_ones_4, h10, show ¬ 10 ≤ a by omega, x_bit hM (a := a) (by omega), nI_add, nI_1])
    (fun x => by simp [s_X7_ones_4, show (10 : Int32) ≤ nI 10 by decide]) 10 0 0 4096 (by omega) (by omega)
  have h2 : zloop (s_X7_ones_4 (nI M)) 4096 (0, 0) = some (nI (pF (fun a x => x + M / 2 ^ a % 2) 10 0 0), nI 10) := h1
  rw [h2]
  simp only [Option.bind_some, pF, pPop, Nat.zero_add]
/-- the fillers that wait, as a set -/
def pWm (s : FF) (m : Nat) : Nat := pF (fun a x => if pfS s a = 0 then x ||| 2 ^ a else x) m 0 0
theorem or_lt {x a : Nat} (h : x < 2 ^ a) : x ||| 2 ^ a < 2 ^ (a + 1) := Nat.or_lt_two_pow (Nat.lt_trans h (by rw [Nat.pow_succ]; have := Nat.two_pow_pos a; omega)) (by rw [Nat.pow_succ]; have := Nat.two_pow_pos a; omega)
theorem pWm_lt (s : FF) (m : Nat) : pWm s m < 2 ^ m := by
  have h := pF_ind (G := fun a x => if pfS s a = 0 then x ||| 2 ^ a else x) (fun a x => x < 2 ^ a) m 0 0 (by decide) (fun a x h1 h2 h3 => by
    by_cases hc : pfS s a = 0
    · simp only [hc, if_true]; exact or_lt h3
    · simp only [hc, if_false]; rw [Nat.pow_succ]; omega)
  rw [Nat.zero_add] at h
  exact h
theorem wm7 {u : MV} {m : Nat} (hm : m ≤ 10) (h8 : u.1 8 = nI m) : f_X7_waitingFillers u = some (nI (pWm u.1 m)) := by
  unfold f_X7_waitingFillers
  have h1 := zlF' (f := s_X7_waitingFillers_4 u) (fun a (x : Nat) => (nI x, nI a)) (fun x => (nI x, nI m)) (fun a x => if pfS u.1 a = 0 then x ||| 2 ^ a else x) m
    (fun a x ha => by
      have hz : ∀ y : Int32, y ||| 0 = y := fun y => by simp
      by_cases hc : pfS u.1 a = 0 <;> simp [s_X7_waitingFillers_4, h8, le_n (a := m) (b := a) (by omega) (by omega), show ¬ m ≤ a by omega, x7f1 (u := u) (i := a) (by omega), hc, nI_1, x_sh a (by omega), x_or])
    (fun x => by simp [s_X7_waitingFillers_4, h8]) m 0 0 4096 (by omega) (by omega)
  have h2 : zloop (s_X7_waitingFillers_4 u) 4096 (0, 0) = some (nI (pWm u.1 m), nI m) := h1
  rw [h2]
  rfl
/-- the fillers of an hour and of a row -/
def FR (f : FV) (s : FF) (m : Nat) : Prop := m ≤ 10 ∧ f.1 = nI m ∧ s 8 = nI m ∧ ∀ i : Nat, i < m → f.2.1 i = pfL s i ∧ f.2.2.1 i = pfS s i ∧ f.2.2.2.1 i = pfB s i
theorem pop_or : ∀ a, a < 10 → ∀ x, x < 2 ^ a → pPop (x ||| 2 ^ a) = pPop x + 1 := by decide +kernel
theorem cw1 {f : FV} {s : FF} {m : Nat} (h : FR f s m) : f_X1_countThatWait f = some (nI (pPop (pWm s m))) := by
  have hm := h.1
  unfold f_X1_countThatWait
  have h1 := zlF' (f := s_X1_countThatWait_4 f) (fun a (x : Nat) => (nI x, nI a)) (fun x => (nI x, nI m)) (fun a x => if pfS s a = 0 then x + 1 else x) m
    (fun a x ha => by
      obtain ⟨-, e2, -⟩ := h.2.2.2 a ha
      by_cases hc : pfS s a = 0 <;> simp [s_X1_countThatWait_4, h.2.1, le_n (a := m) (b := a) (by omega) (by omega), show ¬ m ≤ a by omega, zin_n (i := a) (N := 10) (by omega) (by omega), cl_n (a := a) (by omega), e2, hc, nI_1])
    (fun x => by simp [s_X1_countThatWait_4, h.2.1]) m 0 0 4096 (by omega) (by omega)
  have h2 : zloop (s_X1_countThatWait_4 f) 4096 (0, 0) = some (nI (pF (fun a x => if pfS s a = 0 then x + 1 else x) m 0 0), nI m) := h1
  have h3 := pF_ind (α := Nat × Nat) (G := fun a x => if pfS s a = 0 then (x.1 + 1, x.2 ||| 2 ^ a) else x) (fun a x => x.2 < 2 ^ a ∧ pPop x.2 = x.1) m 0 (0, 0) ⟨by decide, by decide⟩ (fun a x h1 h2 h3 => by
    by_cases hc : pfS s a = 0
    · simp only [hc, if_true]; exact ⟨or_lt h3.1, by rw [pop_or a (by omega) _ h3.1, h3.2]⟩
    · simp only [hc, if_false]; exact ⟨by rw [Nat.pow_succ]; omega, h3.2⟩)
  have h4 := pF_rel (α := Nat × Nat) (β := Nat) (fun x y => x.1 = y) (G := fun a x => if pfS s a = 0 then (x.1 + 1, x.2 ||| 2 ^ a) else x) (H := fun a x => if pfS s a = 0 then x + 1 else x) m 0 (0, 0) 0 rfl (fun a x y h1 h2 h3 => by
    by_cases hc : pfS s a = 0
    · simp only [hc, if_true]; rw [h3]
    · simp only [hc, if_false]; exact h3)
  have h5 := pF_rel (α := Nat × Nat) (β := Nat) (fun x y => x.2 = y) (G := fun a x => if pfS s a = 0 then (x.1 + 1, x.2 ||| 2 ^ a) else x) (H := fun a x => if pfS s a = 0 then x ||| 2 ^ a else x) m 0 (0, 0) 0 rfl (fun a x y h1 h2 h3 => by
    by_cases hc : pfS s a = 0
    · simp only [hc, if_true]; rw [h3]
    · simp only [hc, if_false]; exact h3)
  rw [h2, ← h4, ← h3.2, h5]
  rfl
theorem x1has {f : FV} {s : FF} {m : Nat} (h : FR f s m) (i : Int32) : (f_X1_has f i = some true ∧ ∃ j : Nat, j < m ∧ i = nI j) ∨ (f_X1_has f i = some false ∧ ∀ j : Nat, j < m → i ≠ nI j) := by
  unfold f_X1_has
  by_cases h0 : i < 0
  · rw [if_pos h0]
    refine Or.inr ⟨rfl, fun j hj he => ?_⟩
    rw [he, neg_n (by have := h.1; omega)] at h0
    exact h0
  · rw [if_neg h0]
    obtain ⟨j, hj, rfl⟩ := nI_of h0
    rw [h.2.1]
    by_cases h1 : nI m ≤ nI j
    · rw [if_pos h1]
      rw [nI_leI (by have := h.1; omega) hj] at h1
      exact Or.inr ⟨rfl, fun k hk he => by rw [nI_eq hj (by have := h.1; omega)] at he; omega⟩
    · rw [if_neg h1]
      rw [nI_leI (by have := h.1; omega) hj] at h1
      exact Or.inl ⟨rfl, j, by omega, rfl⟩
theorem x7isF {u : MV} {f : FV} {m : Nat} (h : FR f u.1 m) (i : Int32) : f_X7_isFiller u i = f_X1_has f i := by
  unfold f_X7_isFiller f_X1_has
  rw [h.2.1, h.2.2.1]
theorem hasF {f : FV} {s : FF} {m : Nat} (h : FR f s m) {i : Nat} (hi : i < m) : f_X1_has f (nI i) = some true := by
  have hn := h.1
  simp [f_X1_has, neg_n (a := i) (by omega), h.2.1, le_n (a := m) (b := i) (by omega) (by omega), show ¬ m ≤ i by omega]
theorem tellF2 {f : FV} {u : MV} {m : Nat} (h : FR f u.1 m) {i w : Nat} (hi : i < m) (hw : w ≤ 2) : ∃ b : Int32, f_X1_tell f (nI i) (nI w) = some b ∧ f_X7_ofFiller u (nI i) (nI w) = some b ∧ b = u.1 (70 + 3 * i + w) := by
  have hn := h.1
  obtain ⟨e1, e2, e3⟩ := h.2.2.2 i hi
  have hz := zin_n (i := i) (N := 10) (by omega) (by omega)
  have hcl := cl_n (a := i) (by omega)
  refine ⟨u.1 (70 + 3 * i + w), ?_, x7ofF (by omega) (by omega), rfl⟩
  rcases (by omega : w = 0 ∨ w = 1 ∨ w = 2) with rfl | rfl | rfl
  · simp [f_X1_tell, hasF h hi, zb_t, hz, hcl, e1, pfL, show (nI 0 : Int32) = 0 from rfl]
  · simp [f_X1_tell, hasF h hi, zb_t, hz, hcl, e2, pfS, show (nI 1 : Int32) = 1 from rfl]
  · simp [f_X1_tell, hasF h hi, zb_t, hz, hcl, e3, pfB, show (nI 2 : Int32) = 2 from rfl]
/-- the log of an hour and of a row -/
def LR (l : LV) (s : FF) (k : Nat) : Prop := k ≤ 35 ∧ l.1 = nI k ∧ s 9 = nI k ∧ ∀ i : Nat, i < k → l.2.1 i = s (100 + 3 * i) ∧ l.2.2.1 i = s (100 + 3 * i + 1) ∧ l.2.2.2 i = s (100 + 3 * i + 2)
theorem x3has {l : LV} {s : FF} {k : Nat} (h : LR l s k) (i : Int32) : (f_X3_has l i = some true ∧ ∃ j : Nat, j < k ∧ i = nI j) ∨ (f_X3_has l i = some false ∧ (i < 0 ∨ (¬ i < 0 ∧ nI k ≤ i))) := by
  unfold f_X3_has
  by_cases h0 : i < 0
  · rw [if_pos h0]
    exact Or.inr ⟨rfl, Or.inl h0⟩
  · rw [if_neg h0]
    obtain ⟨j, hj, rfl⟩ := nI_of h0
    rw [h.2.1]
    by_cases h1 : nI k ≤ nI j
    · rw [if_pos h1]
      exact Or.inr ⟨rfl, Or.inr ⟨h0, h1⟩⟩
    · rw [if_neg h1]
      rw [nI_leI (by have := h.1; omega) hj] at h1
      exact Or.inl ⟨rfl, j, by omega, rfl⟩
theorem tellL {l : LV} {s : FF} {k : Nat} (h : LR l s k) {i w : Nat} (hi : i < k) (hw : w ≤ 2) : f_X3_tell l (nI i) (nI w) = some (s (100 + 3 * i + w)) := by
  have hn := h.1
  obtain ⟨e1, e2, e3⟩ := h.2.2.2 i hi
  have hz := zin_n (i := i) (N := 35) (by omega) (by omega)
  have hcl := cl_n (a := i) (by omega)
  have hh : f_X3_has l (nI i) = some true := by simp [f_X3_has, neg_n (a := i) (by omega), h.2.1, le_n (a := k) (b := i) (by omega) (by omega), show ¬ k ≤ i by omega]
  rcases (by omega : w = 0 ∨ w = 1 ∨ w = 2) with rfl | rfl | rfl
  · simp [f_X3_tell, hh, zb_t, hz, hcl, e1, show (nI 0 : Int32) = 0 from rfl]
  · simp [f_X3_tell, hh, zb_t, hz, hcl, e2, show (nI 1 : Int32) = 1 from rfl]
  · simp [f_X3_tell, hh, zb_t, hz, hcl, e3, show (nI 2 : Int32) = 2 from rfl]
