/-! The law's choice of fillers is the row's. -/
/-- what the law adds up for a set: lengths of those that wait, 100000 for others -/
def tN (s : FF) : Nat → Nat → Nat
  | 0, _ => 0
  | k + 1, X => tN s k X + (if X / 2 ^ k % 2 = 1 then (if pfS s k = 0 then (pfL s k).toNatClampNeg else 100000) else 0)
def cN : Nat → Nat → Nat
  | 0, _ => 0
  | k + 1, X => cN k X + X / 2 ^ k % 2
theorem cN_p : ∀ m, m < 6 → ∀ X, X < 2 ^ m → pPop X = cN m X := by decide +kernel
theorem cN_le (X : Nat) : ∀ k : Nat, cN k X ≤ k := by
  intro k
  induction k with
  | zero => exact Nat.le_refl _
  | succ k ih =>
    show cN k X + X / 2 ^ k % 2 ≤ k + 1
    omega
/-- lengths of fillers -/
def FN (s : FF) (m : Nat) : Prop := ∀ i : Nat, i < m → ∃ l : Nat, 1 ≤ l ∧ l ≤ 900 ∧ pfL s i = nI l
theorem FN_c {s : FF} {m i : Nat} (h : FN s m) (hi : i < m) : pfL s i = nI (pfL s i).toNatClampNeg ∧ 1 ≤ (pfL s i).toNatClampNeg ∧ (pfL s i).toNatClampNeg ≤ 900 := by
  obtain ⟨l, l1, l2, l3⟩ := h i hi
  rw [l3, cl_n (by omega)]
  exact ⟨rfl, l1, l2⟩
theorem tN_le {s : FF} {m : Nat} (h : FN s m) (X : Nat) : ∀ k : Nat, k ≤ m → tN s k X ≤ 100000 * k := by
  intro k
  induction k with
  | zero => intro _; exact Nat.le_refl _
  | succ k ih =>
    intro hk
    have h1 := ih (by omega)
    have h2 := (FN_c h (show k < m by omega)).2.2
    show tN s k X + (if X / 2 ^ k % 2 = 1 then (if pfS s k = 0 then (pfL s k).toNatClampNeg else 100000) else 0) ≤ 100000 * (k + 1)
    split
    · split <;> omega
    · omega
theorem tb_d (X k : Nat) : (X.testBit k = true) = (X / 2 ^ k % 2 = 1) := by
  rw [Nat.testBit_eq_decide_div_mod_eq]
  simp
/-- of those that wait alone: the length of the set -/
theorem tN_len {s : FF} {m : Nat} (h : FN s m) {X : Nat} (hX : ∀ i : Nat, i < m → X / 2 ^ i % 2 = 1 → pfS s i = 0) : ∀ k : Nat, k ≤ m → pLen s k X = nI (tN s k X) := by
  intro k
  induction k with
  | zero => intro _; rfl
  | succ k ih =>
    intro hk
    show pLen s k X + (if X.testBit k = true then pfL s k else 0) = nI (tN s k X + (if X / 2 ^ k % 2 = 1 then (if pfS s k = 0 then (pfL s k).toNatClampNeg else 100000) else 0))
    rw [ih (by omega)]
    by_cases hb : X / 2 ^ k % 2 = 1
    · have hb' : X.testBit k = true := by rw [tb_d]; exact hb
      rw [if_pos hb', if_pos hb, if_pos (hX k (by omega) hb), ← nI_add, ← (FN_c h (show k < m by omega)).1]
    · have hb' : ¬ X.testBit k = true := by rw [tb_d]; exact hb
      rw [if_neg hb', if_neg hb, Nat.add_zero, Int32.add_zero]
theorem tN_big {s : FF} {X i : Nat} (hb : X / 2 ^ i % 2 = 1) (hs : pfS s i ≠ 0) : ∀ k : Nat, i < k → 100000 ≤ tN s k X := by
  intro k
  induction k with
  | zero => intro h; omega
  | succ k ih =>
    intro hk
    show 100000 ≤ tN s k X + (if X / 2 ^ k % 2 = 1 then (if pfS s k = 0 then (pfL s k).toNatClampNeg else 100000) else 0)
    by_cases hik : i = k
    · subst hik
      rw [if_pos hb, if_neg hs]
      omega
    · have := ih (by omega)
      omega
theorem tN_pos {s : FF} {m : Nat} (h : FN s m) {X i : Nat} (hb : X / 2 ^ i % 2 = 1) : ∀ k : Nat, k ≤ m → i < k → 1 ≤ tN s k X := by
  intro k
  induction k with
  | zero => intro _ h; omega
  | succ k ih =>
    intro hk hik
    show 1 ≤ tN s k X + (if X / 2 ^ k % 2 = 1 then (if pfS s k = 0 then (pfL s k).toNatClampNeg else 100000) else 0)
    by_cases hi : i = k
    · subst hi
      rw [if_pos hb]
      have := (FN_c h (show i < m by omega)).2.1
      split <;> omega
    · have := ih (by omega) (by omega)
      omega
theorem bit_ex {m X : Nat} (hX : X < 2 ^ m) (h0 : X ≠ 0) : ∃ i : Nat, i < m ∧ X / 2 ^ i % 2 = 1 := by
  apply Classical.byContradiction
  intro hn
  apply h0
  apply Nat.eq_of_testBit_eq
  intro i
  rw [Nat.zero_testBit]
  by_cases hi : i < m
  · cases hb : X.testBit i with
    | false => rfl
    | true => exact absurd ⟨i, hi, by rw [← tb_d]; exact hb⟩ hn
  · exact Nat.testBit_lt_two_pow (Nat.lt_of_lt_of_le hX (Nat.pow_le_pow_right (n := 2) (by decide) (by omega)))
theorem pWm_i {s : FF} : ∀ (m i : Nat), i < m → pfS s i = 0 → (pWm s m).testBit i = true := by
  intro m
  induction m with
  | zero => intro i h; omega
  | succ m ih =>
    intro i hi h0
    rw [pWm_s]
    by_cases him : i = m
    · subst him
      rw [if_pos h0, Nat.testBit_or, Nat.testBit_two_pow]
      simp
    · have := ih i (by omega) h0
      split
      · rw [Nat.testBit_or, this, Bool.true_or]
      · exact this
theorem Lto {g f s : FF} {m X : Nat} (hm : m ≤ 5) (g1 : g 1 = nI m) (hF : FL f s m) (h : FN s m) (hX : X < 2 ^ 31) : f_L_total g f (nI X) = some (nI (tN s m X)) := by
  have h1 := zlF' (f := s_L_total_5 g f (nI X)) (fun a (x : Nat) => (nI x, nI a)) (fun x => (nI x, nI m)) (fun a x => x + (if X / 2 ^ a % 2 = 1 then (if pfS s a = 0 then (pfL s a).toNatClampNeg else 100000) else 0)) m
    (fun a x ha => by
      unfold s_L_total_5
      dsimp only
      rw [g1, if_neg (by rw [nI_leI (by omega) (by omega)]; omega), x_bit hX (by omega), l31, l30, if_pos (zin_n (by omega) (by omega)), if_pos (zin_n (by omega) (by omega)), cl_n (by omega), cl_n (by omega), FL1 hF ha, FL0 hF ha, nI_1]
      by_cases hb : X / 2 ^ a % 2 = 1
      · rw [if_neg (by rw [hb]; decide), if_pos hb]
        by_cases hs : pfS s a = 0
        · have e : nI x + pfL s a = nI (x + (pfL s a).toNatClampNeg) := by rw [← nI_add, ← (FN_c h ha).1]
          rw [if_pos hs, if_pos hs, Option.bind_some, e]
        · rw [if_neg hs, if_neg hs, Option.bind_some, show (100000 : Int32) = nI 100000 from rfl, nI_add]
      · rw [if_pos (by rw [show X / 2 ^ a % 2 = 0 by omega]; rfl), if_neg hb, Option.bind_some, Int32.add_zero]
        rfl)
    (fun x => by
      unfold s_L_total_5
      dsimp only
      rw [g1, if_pos (Int32.le_refl _)]) m 0 0 4096 (by omega) (by omega)
  have h2 : zloop (s_L_total_5 g f (nI X)) 4096 (0, 0) = some (nI (pF (fun a x => x + (if X / 2 ^ a % 2 = 1 then (if pfS s a = 0 then (pfL s a).toNatClampNeg else 100000) else 0)) m 0 0), nI m) := h1
  have h3 : ∀ k : Nat, pF (fun a x => x + (if X / 2 ^ a % 2 = 1 then (if pfS s a = 0 then (pfL s a).toNatClampNeg else 100000) else 0)) k 0 0 = tN s k X := by
    intro k
    induction k with
    | zero => rfl
    | succ k ih => rw [pF_last, ih, Nat.zero_add]; rfl
  unfold f_L_total
  rw [h2, Option.bind_some, h3]
theorem Lmy {g f : FF} {i2 a3 a4 i6 : Int32} {m X : Nat} (hm : m ≤ 5) (g1 : g 1 = nI m) (hX : X < 2 ^ 31) : zloop (s_L_choice_33 g f i2 a3 a4 (nI X) i6) 4096 (0, 0) = some (nI (cN m X), nI m) := by
  have h1 := zlF' (f := s_L_choice_33 g f i2 a3 a4 (nI X) i6) (fun a (x : Nat) => (nI x, nI a)) (fun x => (nI x, nI m)) (fun a x => x + X / 2 ^ a % 2) m
    (fun a x ha => by
      unfold s_L_choice_33
      dsimp only
      rw [g1, if_neg (by rw [nI_leI (by omega) (by omega)]; omega), x_bit hX (by omega), nI_add, nI_1])
    (fun x => by
      unfold s_L_choice_33
      dsimp only
      rw [g1, if_pos (Int32.le_refl _)]) m 0 0 4096 (by omega) (by omega)
  have h2 : zloop (s_L_choice_33 g f i2 a3 a4 (nI X) i6) 4096 (0, 0) = some (nI (pF (fun a x => x + X / 2 ^ a % 2) m 0 0), nI m) := h1
  have h3 : ∀ k : Nat, pF (fun a x => x + X / 2 ^ a % 2) k 0 0 = cN k X := by
    intro k
    induction k with
    | zero => rfl
    | succ k ih => rw [pF_last, ih, Nat.zero_add]; rfl
  rw [h2, h3]
/-- the law's rank of a set -/
def rk (s : FF) (m G X : Nat) : Nat := if G < tN s m X then 0 else 1000000 + 10 * tN s m X - cN m X
theorem Lch {g f s : FF} {m G : Nat} (hm : m ≤ 5) (g1 : g 1 = nI m) (hF : FL f s m) (h : FN s m) (hG : G ≤ 3600) : ∃ B : Nat, f_L_choice g f (nI G) = some (nI B) ∧ pCa s m (nI G) (pWm s m) B ∧ ∀ x : Nat, pCa s m (nI G) (pWm s m) x → ¬ pBt s m x B := by
  have hp : 2 ^ m ≤ 32 := (show 2 ^ m ≤ 2 ^ 5 from Nat.pow_le_pow_right (n := 2) (by decide) hm)
  have hpos := Nat.two_pow_pos m
  have hT : ∀ X : Nat, tN s m X ≤ 500000 := fun X => by have := tN_le h X m (Nat.le_refl _); omega
  have hC : ∀ X : Nat, cN m X ≤ 5 := fun X => by have := cN_le X m; omega
  obtain ⟨r, h1, B, x2, x3, rfl, b1, b2, b3⟩ := zl1 (f := s_L_choice_8 g f (nI G))
    (fun k x => ∃ X B W : Nat, k = 2 ^ m - X ∧ 1 ≤ X ∧ X ≤ 2 ^ m ∧ x = (nI B, nI W, nI X) ∧ B < X ∧ W ≤ 7000000 ∧ ((B = 0 ∧ W = 0) ∨ (B ≠ 0 ∧ W = rk s m G B ∧ W ≠ 0)) ∧ ∀ y : Nat, 1 ≤ y → y < X → rk s m G y ≤ W ∧ (rk s m G y = W → W ≠ 0 → B ≤ y))
    (fun r => ∃ (B : Nat) (x2 x3 : Int32), r = (nI B, x2, x3) ∧ B < 2 ^ m ∧ (B ≠ 0 → rk s m G B ≠ 0) ∧ ∀ y : Nat, 1 ≤ y → y < 2 ^ m → rk s m G y ≤ (if B = 0 then 0 else rk s m G B) ∧ (rk s m G y ≠ 0 → rk s m G y = (if B = 0 then 0 else rk s m G B) → B ≤ y))
    (by
      rintro k x ⟨X, B, W, rfl, hX1, hX2, rfl, hB, hW, hc, hy⟩
      have hsh : (1 : Int32) <<< (g 1 &&& 31) = nI (2 ^ m) := by rw [g1, x_sh m (by omega)]
      by_cases hl : 2 ^ m ≤ X
      · obtain rfl : X = 2 ^ m := by omega
        refine Or.inl ⟨(nI B, nI W, nI (2 ^ m)), ?_, B, _, _, rfl, hB, fun q => ?_, fun y y1 y2 => ?_⟩
        · unfold s_L_choice_8
          dsimp only
          rw [hsh, if_pos (Int32.le_refl _)]
        · rcases hc with ⟨q1, -⟩ | ⟨-, q2, q3⟩
          · exact absurd q1 q
          · rw [← q2]; exact q3
        · obtain ⟨z1, z2⟩ := hy y y1 y2
          rcases hc with ⟨q1, q2⟩ | ⟨q1, q2, q3⟩
          · rw [if_pos q1]
            refine ⟨by omega, fun w1 w2 => absurd w2 w1⟩
          · rw [if_neg q1, ← q2]
            exact ⟨z1, fun w1 w2 => z2 w2 q3⟩
      · have hst : s_L_choice_8 g f (nI G) (nI B, nI W, nI X) = if rk s m G X ≤ W then some (.inl (nI B, nI W, nI (X + 1))) else some (.inl (nI X, nI (rk s m G X), nI (X + 1))) := by
          unfold s_L_choice_8
          dsimp only
          have hr : (if nI G < nI (tN s m X) then some (0 : Int32) else some ((1000000 + (10 * nI (tN s m X))) - nI (cN m X)) : Option Int32) = some (nI (rk s m G X)) := by
            have t1 := hT X
            have t2 := hC X
            unfold rk
            by_cases hq : G < tN s m X
            · rw [if_pos (by rw [nI_ltI (by omega) (by omega)]; exact hq), if_pos hq]
              rfl
            · rw [if_neg (by rw [nI_ltI (by omega) (by omega)]; exact hq), if_neg hq, show (1000000 : Int32) = nI 1000000 from rfl, show (10 : Int32) = nI 10 from rfl, pk_mul, nI_add, pk_sub (by omega)]
          have hrk : rk s m G X ≤ 7000000 := by
            have t1 := hT X
            unfold rk
            split <;> omega
          rw [hsh, if_neg (by rw [nI_leI (by omega) (by omega)]; exact hl), Lto hm g1 hF h (by omega), Option.bind_some, Lmy hm g1 (by omega), Option.bind_some]
          dsimp only
          rw [hr, Option.bind_some, nI_1]
          by_cases hq : rk s m G X ≤ W
          · have hq' : nI (rk s m G X) ≤ nI W := by rw [nI_leI (by omega) (by omega)]; exact hq
            rw [if_pos hq', if_pos hq', if_pos hq]
            rfl
          · have hq' : ¬ nI (rk s m G X) ≤ nI W := by rw [nI_leI (by omega) (by omega)]; exact hq
            rw [if_neg hq', if_neg hq', if_neg hq]
            rfl
        have hrk : rk s m G X ≤ 7000000 := by
          have t1 := hT X
          unfold rk
          split <;> omega
        by_cases hq : rk s m G X ≤ W
        · refine Or.inr ⟨2 ^ m - (X + 1), (nI B, nI W, nI (X + 1)), by rw [hst, if_pos hq], by omega, X + 1, B, W, rfl, by omega, by omega, rfl, by omega, hW, hc, fun y y1 y2 => ?_⟩
          by_cases hyX : y = X
          · subst hyX
            exact ⟨hq, fun _ _ => by omega⟩
          · exact hy y y1 (by omega)
        · refine Or.inr ⟨2 ^ m - (X + 1), (nI X, nI (rk s m G X), nI (X + 1)), by rw [hst, if_neg hq], by omega, X + 1, X, rk s m G X, rfl, by omega, by omega, rfl, by omega, hrk, Or.inr ⟨by omega, rfl, by omega⟩, fun y y1 y2 => ?_⟩
          by_cases hyX : y = X
          · subst hyX
            exact ⟨Nat.le_refl _, fun _ _ => Nat.le_refl _⟩
          · have := (hy y y1 (by omega)).1
            exact ⟨by omega, fun z _ => by omega⟩)
    4096 (2 ^ m - 1) (nI 0, nI 0, nI 1) (by omega) ⟨1, 0, 0, rfl, Nat.le_refl _, by omega, rfl, by omega, by omega, Or.inl ⟨rfl, rfl⟩, fun y y1 y2 => by omega⟩
  have h1' : zloop (s_L_choice_8 g f (nI G)) 4096 (0, 0, 1) = some (nI B, x2, x3) := h1
  -- sets of those that wait
  have hW : ∀ X : Nat, tN s m X ≤ 3600 → ∀ i : Nat, i < m → X / 2 ^ i % 2 = 1 → pfS s i = 0 := fun X hX i hi hb => by
    by_cases hs : pfS s i = 0
    · exact hs
    · have := tN_big hb hs m hi
      omega
  have hS : ∀ X : Nat, X < 2 ^ m → tN s m X ≤ 3600 → pSub X (pWm s m) := fun X hX hX2 i hb => by
    by_cases hi : i < m
    · rw [tb_d] at hb
      exact pWm_i m i hi (hW X hX2 i hi hb)
    · rw [Nat.testBit_lt_two_pow (Nat.lt_of_lt_of_le hX (Nat.pow_le_pow_right (n := 2) (by decide) (by omega)))] at hb
      cases hb
  have hlen : ∀ X : Nat, tN s m X ≤ 3600 → (pLen s m X).toInt = (tN s m X : Int) := fun X hX => by
    rw [tN_len h (hW X hX) m (Nat.le_refl _), nI_toInt (by omega)]
  have hGi : (nI G).toInt = (G : Int) := nI_toInt (by omega)
  have hBT : B ≠ 0 → tN s m B ≤ G := fun hB0 => by
    have := b2 hB0
    unfold rk at this
    by_cases hq : G < tN s m B
    · rw [if_pos hq] at this; exact absurd rfl this
    · omega
  have hT0 : tN s m 0 = 0 := by
    have hz : ∀ k : Nat, tN s k 0 = 0 := by
      intro k
      induction k with
      | zero => rfl
      | succ k ih =>
        show tN s k 0 + (if 0 / 2 ^ k % 2 = 1 then (if pfS s k = 0 then (pfL s k).toNatClampNeg else 100000) else 0) = 0
        rw [ih, Nat.zero_div, if_neg (by decide)]
    exact hz m
  refine ⟨B, ?_, ?_, fun x hx => ?_⟩
  · unfold f_L_choice
    rw [h1', Option.bind_some]
  · by_cases hB0 : B = 0
    · exact Or.inl hB0
    · have := hBT hB0
      exact Or.inr ⟨hS B b1 (by omega), by rw [hlen B (by omega), hGi]; omega⟩
  · have hTB : tN s m B ≤ 3600 := by
      by_cases hB0 : B = 0
      · rw [hB0, hT0]; omega
      · have := hBT hB0; omega
    have hlB := hlen B hTB
    have hpB : pPop B = cN m B := cN_p m (by omega) B b1
    unfold pBt
    by_cases hx0 : x = 0
    · subst hx0
      have hl0 := hlen 0 (by rw [hT0]; omega)
      rw [hT0] at hl0
      by_cases hB0 : B = 0
      · subst hB0
        omega
      · obtain ⟨i, i1, i2⟩ := bit_ex b1 hB0
        have := tN_pos h i2 m (Nat.le_refl _) i1
        omega
    · rcases hx with hx | ⟨x1, x2⟩
      · exact absurd hx hx0
      · have hxm : x < 2 ^ m := Nat.lt_pow_two_of_testBit x (fun i hi => by
          cases hb : x.testBit i with
          | false => rfl
          | true => exact absurd (pWm_b s m i (x1 i hb)).1 (by omega))
        have hxw : ∀ i : Nat, i < m → x / 2 ^ i % 2 = 1 → pfS s i = 0 := fun i hi hb => (pWm_b s m i (x1 i (by rw [tb_d]; exact hb))).2
        have hxl : (pLen s m x).toInt = (tN s m x : Int) := by
          have := hT x
          rw [tN_len h hxw m (Nat.le_refl _), nI_toInt (by omega)]
        have hpx : pPop x = cN m x := cN_p m (by omega) x hxm
        rw [hxl, hGi] at x2
        obtain ⟨z1, z2⟩ := b3 x (by omega) hxm
        have hrx : rk s m G x = 1000000 + 10 * tN s m x - cN m x := by unfold rk; rw [if_neg (by omega)]
        have c1 := hC x
        have c2 := hC B
        by_cases hB0 : B = 0
        · rw [if_pos hB0] at z1
          omega
        · rw [if_neg hB0] at z1 z2
          have hBG := hBT hB0
          have hrB : rk s m G B = 1000000 + 10 * tN s m B - cN m B := by unfold rk; rw [if_neg (by omega)]
          rw [hxl, hlB, hpx, hpB]
          rw [hrx, hrB] at z1 z2
          have z3 := z2 (by omega)
          omega
