/-! The pure part: counts, and the relation of an hour and a row. -/
def pC (P : Nat → Bool) : Nat → Nat
  | 0 => 0
  | n + 1 => pC P n + (if P n = true then 1 else 0)
theorem pC_le (P : Nat → Bool) : ∀ n : Nat, pC P n ≤ n := by
  intro n
  induction n with
  | zero => exact Nat.le_refl _
  | succ n ih =>
    show pC P n + (if P n = true then 1 else 0) ≤ n + 1
    split <;> omega
theorem pC_mono {P Q : Nat → Bool} : ∀ n : Nat, (∀ i : Nat, i < n → P i = true → Q i = true) → pC P n ≤ pC Q n := by
  intro n
  induction n with
  | zero => intro _; exact Nat.le_refl _
  | succ n ih =>
    intro h
    have h1 := ih (fun i hi => h i (by omega))
    show pC P n + (if P n = true then 1 else 0) ≤ pC Q n + (if Q n = true then 1 else 0)
    by_cases hp : P n = true
    · rw [if_pos hp, if_pos (h n (by omega) hp)]; omega
    · rw [if_neg hp]; omega
theorem pC_one {P Q : Nat → Bool} : ∀ n : Nat, (∀ i : Nat, i < n → P i = true → Q i = true) → (∃ i : Nat, i < n ∧ P i = false ∧ Q i = true) → pC P n + 1 ≤ pC Q n := by
  intro n
  induction n with
  | zero => rintro _ ⟨i, hi, _⟩; omega
  | succ n ih =>
    rintro h ⟨i, hi, hp, hq⟩
    show pC P n + (if P n = true then 1 else 0) + 1 ≤ pC Q n + (if Q n = true then 1 else 0)
    by_cases hin : i = n
    · subst hin
      have h1 := pC_mono i (fun j hj => h j (by omega))
      rw [hp, if_neg (by simp), if_pos hq]
      omega
    · have h1 := ih (fun j hj => h j (by omega)) ⟨i, by omega, hp, hq⟩
      by_cases hpn : P n = true
      · rw [if_pos hpn, if_pos (h n (by omega) hpn)]; omega
      · rw [if_neg hpn]; omega
theorem pC_cong {P Q : Nat → Bool} (n : Nat) (h : ∀ i : Nat, i < n → P i = Q i) : pC P n = pC Q n :=
  Nat.le_antisymm (pC_mono n (fun i hi q => by rw [← h i hi]; exact q)) (pC_mono n (fun i hi q => by rw [h i hi]; exact q))
/-- elements and fillers that don't wait; fixed times up to a second, and the hour's end -/
def pCE (s : FF) (n : Nat) : Nat := pC (fun i => decide (pS s i ≠ 0)) n
def pCF (s : FF) (m : Nat) : Nat := pC (fun i => decide (pfS s i ≠ 0)) m
def pCT (s : FF) (n B : Nat) : Nat := pC (fun i => decide (pT s i ≠ -1 ∧ pT s i ≤ nI B)) n + (if 3600 ≤ B then 1 else 0)
theorem pCT_le (s : FF) (n B : Nat) : pCT s n B ≤ n + 1 := by
  have h := pC_le (fun i => decide (pT s i ≠ -1 ∧ pT s i ≤ nI B)) n
  unfold pCT
  split <;> omega
theorem pCT_mono {s : FF} {n B C : Nat} (h : B ≤ C) (hC : C < 100000) : pCT s n B ≤ pCT s n C := by
  have h1 := pC_mono (P := fun i => decide (pT s i ≠ -1 ∧ pT s i ≤ nI B)) (Q := fun i => decide (pT s i ≠ -1 ∧ pT s i ≤ nI C)) n (fun i _ hp => by
    have hp' := of_decide_eq_true hp
    refine decide_eq_true ⟨hp'.1, Int32.le_trans hp'.2 ?_⟩
    rw [nI_leI (by omega) (by omega)]
    exact h)
  unfold pCT
  split <;> split <;> omega
/-- a goal above a second is a time not counted yet -/
theorem pCT_one {s : FF} {n B t : Nat} (h : B < t) (ht : t ≤ 3600) (hg : t = 3600 ∨ ∃ i : Nat, i < n ∧ pT s i = nI t) : pCT s n B + 1 ≤ pCT s n t := by
  rcases hg with rfl | ⟨i, hi, hti⟩
  · have h1 := pC_mono (P := fun i => decide (pT s i ≠ -1 ∧ pT s i ≤ nI B)) (Q := fun i => decide (pT s i ≠ -1 ∧ pT s i ≤ nI 3600)) n (fun i _ hp => by
      have hp' := of_decide_eq_true hp
      refine decide_eq_true ⟨hp'.1, Int32.le_trans hp'.2 ?_⟩
      rw [nI_leI (by omega) (by omega)]
      omega)
    unfold pCT
    rw [if_neg (by omega), if_pos (by omega)]
    omega
  · have h1 := pC_one (P := fun i => decide (pT s i ≠ -1 ∧ pT s i ≤ nI B)) (Q := fun i => decide (pT s i ≠ -1 ∧ pT s i ≤ nI t)) n (fun i _ hp => by
      have hp' := of_decide_eq_true hp
      refine decide_eq_true ⟨hp'.1, Int32.le_trans hp'.2 ?_⟩
      rw [nI_leI (by omega) (by omega)]
      omega) ⟨i, hi, decide_eq_false (fun q => by
        have q2 := q.2
        rw [hti, nI_leI (by omega) (by omega)] at q2
        omega), decide_eq_true ⟨by rw [hti]; exact of_eq_false (ne1_n (by omega)), by rw [hti]; exact Int32.le_refl _⟩⟩
    unfold pCT
    split <;> split <;> omega
/-- the greatest lateness, as the reference reckons it -/
def pGr (s : FF) (n : Nat) : Int32 := pF (fun i x => if pLate s i ≤ x then x else pLate s i) n 0 0
theorem gr7 {u : MV} {n : Nat} (hn : n ≤ 12) (h7 : u.1 7 = nI n) : f_X7_greatest u = some (pGr u.1 n) := by
  unfold f_X7_greatest
  have h1 := zlF' (f := s_X7_greatest_4 u) (fun a (x : Int32) => (x, nI a)) (fun x => (x, nI n)) (fun i x => if pLate u.1 i ≤ x then x else pLate u.1 i) n
    (fun a x ha => by
      by_cases hc : pLate u.1 a ≤ x <;> simp [s_X7_greatest_4, h7, le_n (a := n) (b := a) (by omega) (by omega), show ¬ n ≤ a by omega, lt7 (u := u) (i := a) (by omega), hc, nI_1])
    (fun x => by simp [s_X7_greatest_4, h7]) n 0 0 4096 (by omega) (by omega)
  have h2 : zloop (s_X7_greatest_4 u) 4096 (0, 0) = some (pGr u.1 n, nI n) := h1
  rw [h2]
  rfl
/-- what a row keeps -/
def pIn (s : FF) (n m k : Nat) : Prop :=
  (∀ i : Nat, i < n → (∃ l : Nat, 1 ≤ l ∧ l ≤ 3600 ∧ pL s i = nI l) ∧ (pT s i = -1 ∨ ∃ t : Nat, t ≤ 3599 ∧ pT s i = nI t) ∧ ((pS s i = 0 ∧ pB s i = -1) ∨ (pS s i = 1 ∧ ∃ b : Nat, b ≤ 3600 * (pCE s n + pCF s m) ∧ pB s i = nI b ∧ s 2 = 1 ∧ s 3 = nI i) ∨ pS s i = 2 ∨ pS s i = 3)) ∧
  (∀ i : Nat, i < m → ∃ l : Nat, 1 ≤ l ∧ l ≤ 900 ∧ pfL s i = nI l) ∧
  (s 1 = 0 ∨ s 1 = 1) ∧
  ∃ sec : Nat, s 0 = nI sec ∧ sec ≤ 3600 * (1 + pCE s n + pCF s m) ∧
    ((s 2 = 0 ∧ k ≤ pCE s n + pCF s m + pCT s n sec) ∨
     (∃ en : Nat, s 4 = nI en ∧ sec < en ∧ en ≤ 3600 * (1 + pCE s n + pCF s m) ∧
       ((s 2 = 1 ∧ (∃ a : Nat, a < n ∧ s 3 = nI a) ∧ k ≤ pCE s n + pCF s m + pCT s n sec) ∨
        (s 2 = 2 ∧ (∃ a : Nat, a < m ∧ s 3 = nI a) ∧ k ≤ pCE s n + pCF s m + pCT s n sec) ∨
        (s 2 = 3 ∧ s 3 = -1 ∧ k ≤ pCE s n + pCF s m + pCT s n en))))
theorem pIn_k {s : FF} {n m k : Nat} (hn : n ≤ 12) (hm : m ≤ 10) (h : pIn s n m k) : k ≤ 35 := by
  obtain ⟨-, -, -, sec, -, -, h2⟩ := h
  have a1 : pCE s n ≤ n := pC_le _ n
  have a2 : pCF s m ≤ m := pC_le _ m
  rcases h2 with ⟨-, h3⟩ | ⟨en, -, -, -, ⟨-, -, h3⟩ | ⟨-, -, h3⟩ | ⟨-, -, h3⟩⟩
  · have := pCT_le s n sec; omega
  · have := pCT_le s n sec; omega
  · have := pCT_le s n sec; omega
  · have := pCT_le s n en; omega
/-- the hour of the class and the row of the reference, the logs aside -/
def HR0 (h : HV) (s : FF) (n m : Nat) : Prop :=
  ER h.1 s n ∧ FR h.2.1 s m ∧ h.2.2.2.1 = s 0 ∧ zb h.2.2.2.2.1 = s 1 ∧ h.2.2.2.2.2.1 = s 5 ∧ h.2.2.2.2.2.2.1 = pGr s n ∧ h.2.2.2.2.2.2.2.1 = s 6 ∧
  ((h.2.2.2.2.2.2.2.2.1 = -1 ∧ s 2 = 0) ∨ (∃ a : Nat, a ≤ 2 ∧ h.2.2.2.2.2.2.2.2.1 = nI a ∧ s 2 = nI (a + 1) ∧ h.2.2.2.2.2.2.2.2.2.1 = s 3 ∧ h.2.2.2.2.2.2.2.2.2.2 = s 4))
def HR (h : HV) (s : FF) : Prop := ∃ n m k : Nat, HR0 h s n m ∧ LR h.2.2.1 s k ∧ pIn s n m k
