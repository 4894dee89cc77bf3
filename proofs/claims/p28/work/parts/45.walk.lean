/-! The pure part: the sets of fillers, their lengths; the walk of the class through them. -/
theorem pF_last {α : Type} {G : Nat → α → α} : ∀ (k i : Nat) (x : α), pF G (k + 1) i x = G (i + k) (pF G k i x) := by
  intro k
  induction k with
  | zero => intro i x; rfl
  | succ k ih =>
    intro i x
    show pF G (k + 1) (i + 1) (G i x) = _
    rw [ih (i + 1) (G i x), show i + 1 + k = i + (k + 1) by omega]
    rfl
theorem pWm_s (s : FF) (m : Nat) : pWm s (m + 1) = if pfS s m = 0 then pWm s m ||| 2 ^ m else pWm s m := by
  unfold pWm
  rw [pF_last, Nat.zero_add]
theorem bit1 {M a : Nat} (hM : M < 2 ^ 31) (ha : a < 32) : ((nI M >>> (nI a &&& 31)) &&& 1 = 1) = (M.testBit a = true) := by
  rw [x_bit hM ha]
  apply propext
  rw [show (1 : Int32) = nI 1 from rfl, nI_eq (by omega) (by omega), Nat.testBit_eq_decide_div_mod_eq]
  simp
/-- the length of a set of fillers -/
def pLen (s : FF) : Nat → Nat → Int32
  | 0, _ => 0
  | k + 1, M => pLen s k M + (if M.testBit k = true then pfL s k else 0)
theorem len7 {u : MV} {m : Nat} (hm : m ≤ 10) (h8 : u.1 8 = nI m) {M : Nat} (hM : M < 2 ^ 31) : f_X7_lengthOf u (nI M) = some (pLen u.1 m M) := by
  unfold f_X7_lengthOf
  have h1 := zlF' (f := s_X7_lengthOf_4 u (nI M)) (fun a (x : Int32) => (x, nI a)) (fun x => (x, nI m)) (fun a x => x + (if M.testBit a = true then pfL u.1 a else 0)) m
    (fun a x ha => by
      by_cases hc : M.testBit a = true <;> simp [s_X7_lengthOf_4, h8, le_n (a := m) (b := a) (by omega) (by omega), show ¬ m ≤ a by omega, bit1 hM (a := a) (by omega), x7f0 (u := u) (i := a) (by omega), hc, nI_1])
    (fun x => by simp [s_X7_lengthOf_4, h8]) m 0 0 4096 (by omega) (by omega)
  have h2 : zloop (s_X7_lengthOf_4 u (nI M)) 4096 (0, 0) = some (pF (fun a x => x + (if M.testBit a = true then pfL u.1 a else 0)) m 0 0, nI m) := h1
  have h3 : ∀ k : Nat, pF (fun a x => x + (if M.testBit a = true then pfL u.1 a else 0)) k 0 0 = pLen u.1 k M := by
    intro k
    induction k with
    | zero => rfl
    | succ k ih => rw [pF_last, ih, Nat.zero_add]; rfl
  rw [h2, h3]
  rfl
theorem add_sw (a b c : Int32) : a + b + c = a + c + b := by rw [Int32.add_assoc, Int32.add_comm b c, ← Int32.add_assoc]
theorem pLen_xor (s : FF) (M i : Nat) : ∀ k : Nat, pLen s k (M ^^^ 2 ^ i) = if i < k then (if M.testBit i = true then pLen s k M + -(pfL s i) else pLen s k M + pfL s i) else pLen s k M := by
  intro k
  induction k with
  | zero => simp [pLen]
  | succ k ih =>
    show pLen s k (M ^^^ 2 ^ i) + (if (M ^^^ 2 ^ i).testBit k = true then pfL s k else 0) = _
    rw [ih, Nat.testBit_xor, Nat.testBit_two_pow]
    show _ = if i < k + 1 then (if M.testBit i = true then (pLen s k M + (if M.testBit k = true then pfL s k else 0)) + -(pfL s i) else (pLen s k M + (if M.testBit k = true then pfL s k else 0)) + pfL s i) else (pLen s k M + (if M.testBit k = true then pfL s k else 0))
    by_cases h1 : i < k
    · have hne : ¬ i = k := by omega
      rw [if_pos h1, if_pos (show i < k + 1 by omega)]
      simp only [hne, decide_false, Bool.xor_false]
      by_cases hb : M.testBit i = true
      · rw [if_pos hb, if_pos hb, add_sw]
      · rw [if_neg hb, if_neg hb, add_sw]
    · rw [if_neg h1]
      by_cases h2 : i = k
      · subst h2
        rw [if_pos (show i < i + 1 by omega)]
        cases hb : M.testBit i with
        | true => simp [hb, Int32.add_assoc, Int32.add_right_neg]
        | false => simp [hb]
      · rw [if_neg (show ¬ i < k + 1 by omega)]
        simp [h2]
theorem go_d : ∀ e, e < 10 → ∀ S, S < 1024 → (S ^^^ 2 ^ e) < 1024 ∧ ((nI (S ^^^ 2 ^ e) &&& nI (2 ^ e)) = 0 ↔ S.testBit e = true) ∧ nI (pPop (S ^^^ 2 ^ e)) = nI (pPop S) + (if S.testBit e = true then -1 else 1) := by decide +kernel
theorem go4 {s : FF} {m c : Nat} {e : Nat → Nat} {fl ln : FF} (hm : m ≤ 10) (hc : c ≤ 10) (he : ∀ k : Nat, k < c → fl k = nI (e k) ∧ ln k = pfL s (e k) ∧ e k < m) {t S : Nat} (ht : t + 1 < 2 ^ c) (hS : S < 1024) :
    f_X4_go (fl, ln, nI c, nI S, pLen s m S, nI (pPop S)) (nI (t + 1)) = some (fl, ln, nI c, nI (S ^^^ 2 ^ e (tz 10 (t + 1))), pLen s m (S ^^^ 2 ^ e (tz 10 (t + 1))), nI (pPop (S ^^^ 2 ^ e (tz 10 (t + 1))))) := by
  have hk := tz_l c (by omega) (t + 1) ht (by omega)
  have hp : 2 ^ c ≤ 1024 := Nat.pow_le_pow_right (by decide) hc
  have hz := tz_j (t + 1) (by omega) (by omega)
  generalize tz 10 (t + 1) = k at hk hz
  obtain ⟨e1, e2, e3⟩ := he k hk
  obtain ⟨g1, g2, g3⟩ := go_d (e k) (by omega) S hS
  have hx : nI S ^^^ (1 <<< (nI (e k) &&& 31)) = nI (S ^^^ 2 ^ e k) := by rw [x_sh _ (by omega), x_xor]
  have hl : nI k < nI c := by rw [nI_ltI (by omega) (by omega)]; exact hk
  unfold f_X4_go
  rw [hz]
  simp only [Option.bind_some]
  rw [if_pos hl, if_pos (zin_n (by omega) (by omega)), cl_n (by omega), e1, hx, x_sh _ (by omega), e2, g3, pLen_xor]
  by_cases hb : S.testBit (e k) = true
  · rw [if_pos (g2.mpr hb), if_pos (zin_n (by omega) (by omega)), if_pos hb, if_pos hb, if_pos e3]
  · rw [if_neg (fun q => hb (g2.mp q)), if_pos (zin_n (by omega) (by omega)), if_neg hb, if_neg hb, if_pos e3]
theorem pU_cong {e e' : Nat → Nat} : ∀ c : Nat, (∀ j : Nat, j < c → e j = e' j) → pU e c = pU e' c := by
  intro c
  induction c with
  | zero => intro _; rfl
  | succ c ih =>
    intro h
    show pU e c ||| 2 ^ e c = pU e' c ||| 2 ^ e' c
    rw [ih (fun j hj => h j (by omega)), h c (by omega)]
theorem be4 {f : FV} {s : FF} {m : Nat} (h : FR f s m) (w : WV) : ∃ (c : Nat) (e : Nat → Nat) (fl ln : FF), c ≤ m ∧ f_X4_begin w (f.1, f.2.1, f.2.2.1, f.2.2.2.1) = some (nI (2 ^ c), (fl, ln, nI c, 0, 0, 0)) ∧ (∀ k : Nat, k < c → fl k = nI (e k) ∧ ln k = pfL s (e k) ∧ e k < m) ∧ (∀ k : Nat, k < c → (pU e k).testBit (e k) = false) ∧ pU e c = pWm s m := by
  have hm := h.1
  obtain ⟨r, h1, c, e, fl, ln, hc, rfl, h2, h3, h4⟩ := zl1 (f := s_X4_begin_22 (w.1, w.2.1, 0, 0, 0, 0) (f.1, f.2.1, f.2.2.1, f.2.2.2.1))
    (fun k x => ∃ (a c : Nat) (e : Nat → Nat) (fl ln : FF), k = m - a ∧ x = (nI a, fl, ln, nI c) ∧ a ≤ m ∧ c ≤ a ∧ (∀ k : Nat, k < c → fl k = nI (e k) ∧ ln k = pfL s (e k) ∧ e k < a) ∧ (∀ k : Nat, k < c → (pU e k).testBit (e k) = false) ∧ pU e c = pWm s a)
    (fun r => ∃ (c : Nat) (e : Nat → Nat) (fl ln : FF), c ≤ m ∧ r = (nI m, fl, ln, nI c) ∧ (∀ k : Nat, k < c → fl k = nI (e k) ∧ ln k = pfL s (e k) ∧ e k < m) ∧ (∀ k : Nat, k < c → (pU e k).testBit (e k) = false) ∧ pU e c = pWm s m)
    (by
      rintro k x ⟨a, c, e, fl, ln, rfl, rfl, ha, hc, h2, h3, h4⟩
      by_cases hl : m ≤ a
      · obtain rfl : a = m := by omega
        exact Or.inl ⟨_, by simp [s_X4_begin_22, h.2.1], c, e, fl, ln, hc, rfl, h2, h3, h4⟩
      · obtain ⟨e1, e2, -⟩ := h.2.2.2 a (by omega)
        have h10 : ((10 : Int32) ≤ nI c) = (10 ≤ c) := le_n (a := 10) (by omega) (by omega)
        by_cases hs : pfS s a = 0
        · obtain ⟨e', g1, g2⟩ : ∃ e' : Nat → Nat, e' c = a ∧ ∀ k : Nat, k ≠ c → e' k = e k := ⟨fun k => if k = c then a else e k, if_pos rfl, fun k hk => if_neg hk⟩
          refine Or.inr ⟨m - (a + 1), (nI (a + 1), upd fl c (nI a), upd ln c (pfL s a), nI (c + 1)), ?_, by omega, a + 1, c + 1, e', _, _, rfl, rfl, by omega, by omega, fun k hk => ?_, fun k hk => ?_, ?_⟩
          · simp [s_X4_begin_22, h.2.1, le_n (a := m) (b := a) (by omega) (by omega), hl, h10, show ¬ 10 ≤ c by omega, zin_n (i := a) (N := 10) (by omega) (by omega), zin_n (i := c) (N := 10) (by omega) (by omega), cl_n (a := a) (by omega), cl_n (a := c) (by omega), e1, e2, hs, nI_1]
          · by_cases hkc : k = c
            · subst hkc
              rw [pk_us, pk_us, g1]
              exact ⟨rfl, rfl, by omega⟩
            · obtain ⟨q1, q2, q3⟩ := h2 k (by omega)
              rw [pk_un hkc, pk_un hkc, g2 k hkc]
              exact ⟨q1, q2, by omega⟩
          · rw [pU_cong (e' := e) k (fun j hj => g2 j (by omega))]
            by_cases hkc : k = c
            · subst hkc
              rw [g1, h4]
              exact Nat.testBit_lt_two_pow (pWm_lt s a)
            · rw [g2 k hkc]; exact h3 k (by omega)
          · show pU e' c ||| 2 ^ e' c = _
            rw [pU_cong (e' := e) c (fun j hj => g2 j (by omega)), g1, h4, pWm_s, if_pos hs]
        · refine Or.inr ⟨m - (a + 1), (nI (a + 1), fl, ln, nI c), ?_, by omega, a + 1, c, e, _, _, rfl, rfl, by omega, by omega, fun k hk => ?_, h3, ?_⟩
          · simp [s_X4_begin_22, h.2.1, le_n (a := m) (b := a) (by omega) (by omega), hl, h10, show ¬ 10 ≤ c by omega, zin_n (i := a) (N := 10) (by omega) (by omega), cl_n (a := a) (by omega), e2, hs, nI_1]
          · obtain ⟨q1, q2, q3⟩ := h2 k hk
            exact ⟨q1, q2, by omega⟩
          · rw [h4, pWm_s, if_neg hs])
    4096 m (nI 0, w.1, w.2.1, nI 0) (by omega) ⟨0, 0, id, _, _, rfl, rfl, Nat.zero_le _, Nat.le_refl _, fun k hk => by omega, fun k hk => by omega, rfl⟩
  refine ⟨c, e, fl, ln, hc, ?_, h2, h3, h4⟩
  have h1' : zloop (s_X4_begin_22 (w.1, w.2.1, 0, 0, 0, 0) (f.1, f.2.1, f.2.2.1, f.2.2.2.1)) 4096 (0, w.1, w.2.1, 0) = some (nI m, fl, ln, nI c) := h1
  unfold f_X4_begin
  rw [h1']
  simp only [Option.bind_some]
  rw [x_sh c (by omega)]
