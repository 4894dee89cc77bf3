/-! The pure part: rows that agree below 220; copies. -/
theorem pIn_cg {s s' : FF} {n m k : Nat} (hn : n ≤ 12) (hm : m ≤ 10) (h : pIn s n m k) (hs : ∀ j : Nat, j < 100 → j ≠ 9 → s' j = s j) : pIn s' n m k := by
  have hL : ∀ j : Nat, j < n → pL s' j = pL s j := fun j hj => hs _ (by omega) (by omega)
  have hT : ∀ j : Nat, j < n → pT s' j = pT s j := fun j hj => hs _ (by omega) (by omega)
  have hB : ∀ j : Nat, j < n → pB s' j = pB s j := fun j hj => hs _ (by omega) (by omega)
  have hS : ∀ j : Nat, j < n → pS s' j = pS s j := fun j hj => hs _ (by omega) (by omega)
  have hfL : ∀ j : Nat, j < m → pfL s' j = pfL s j := fun j hj => hs _ (by omega) (by omega)
  have hfS : ∀ j : Nat, j < m → pfS s' j = pfS s j := fun j hj => hs _ (by omega) (by omega)
  have hF : pCF s' m = pCF s m := pC_cong m (fun j hj => by rw [hfS j hj])
  have hE : pCE s' n = pCE s n := pC_cong n (fun j hj => by rw [hS j hj])
  have hTT : ∀ B : Nat, pCT s' n B = pCT s n B := fun B => by
    unfold pCT
    rw [pC_cong n (fun j hj => by rw [hT j hj])]
  obtain ⟨a1, a2, a3, sec, a4, a5, a6⟩ := h
  refine ⟨fun j hj => ?_, fun j hj => by rw [hfL j hj]; exact a2 j hj, by rw [hs 1 (by omega) (by omega)]; exact a3, sec, by rw [hs 0 (by omega) (by omega)]; exact a4, by rw [hE, hF]; exact a5, ?_⟩
  · rw [hL j hj, hT j hj, hS j hj, hB j hj, hE, hF, hs 2 (by omega) (by omega), hs 3 (by omega) (by omega)]
    exact a1 j hj
  · rw [hs 2 (by omega) (by omega), hs 3 (by omega) (by omega), hs 4 (by omega) (by omega), hE, hF]
    simp only [hTT]
    exact a6
theorem pIn_dn {s : FF} {n m k k' : Nat} (h : pIn s n m k) (hk : k' ≤ k) : pIn s n m k' := by
  obtain ⟨a1, a2, a3, sec, a4, a5, a6⟩ := h
  refine ⟨a1, a2, a3, sec, a4, a5, ?_⟩
  rcases a6 with ⟨b1, b2⟩ | ⟨en, b1, b2, b3, ⟨b4, b5, b6⟩ | ⟨b4, b5, b6⟩ | ⟨b4, b5, b6⟩⟩
  · exact Or.inl ⟨b1, by omega⟩
  · exact Or.inr ⟨en, b1, b2, b3, Or.inl ⟨b4, b5, by omega⟩⟩
  · exact Or.inr ⟨en, b1, b2, b3, Or.inr (Or.inl ⟨b4, b5, by omega⟩)⟩
  · exact Or.inr ⟨en, b1, b2, b3, Or.inr (Or.inr ⟨b4, b5, by omega⟩)⟩
theorem HR0_cg {h : HV} {s s' : FF} {n m : Nat} (h0 : HR0 h s n m) (hs : ∀ j : Nat, j < 100 → j ≠ 9 → s' j = s j) : HR0 h s' n m := by
  obtain ⟨r1, r2, r3, r4, r5, r6, r7, r8⟩ := h0
  have hn := r1.1
  refine ⟨ER_ag r1 (fun j q1 q2 _ => hs j (by omega) q2), FR_ag r2 (fun j q1 q2 => hs j q1 (by omega)), r3.trans (hs 0 (by omega) (by omega)).symm, r4.trans (hs 1 (by omega) (by omega)).symm, r5.trans (hs 5 (by omega) (by omega)).symm, ?_, r7.trans (hs 6 (by omega) (by omega)).symm, ?_⟩
  · rw [pGr_cong (s' := s') (s := s) (fun j hj => pLate_ag (hs _ (by omega) (by omega)) (hs _ (by omega) (by omega)))]; exact r6
  · rw [hs 2 (by omega) (by omega), hs 3 (by omega) (by omega), hs 4 (by omega) (by omega)]; exact r8
theorem LR_cg {l : LV} {s s' : FF} {k : Nat} (h : LR l s k) (hs : ∀ j : Nat, j < 220 → (j = 9 ∨ 100 ≤ j) → s' j = s j) : LR l s' k := by
  obtain ⟨h1, h2, h3, h4⟩ := h
  refine ⟨h1, h2, by rw [hs 9 (by omega) (by omega)]; exact h3, fun i hi => ?_⟩
  obtain ⟨e1, e2, e3⟩ := h4 i hi
  rw [hs (100 + 3 * i) (by omega) (by omega), hs (100 + 3 * i + 1) (by omega) (by omega), hs (100 + 3 * i + 2) (by omega) (by omega)]
  exact ⟨e1, e2, e3⟩
theorem LB_cg {E : Prop} {l : LV} {s s' : FF} {k : Nat} (h : LB E l s k) (hs : ∀ j : Nat, j < 220 → (j = 9 ∨ 100 ≤ j) → s' j = s j) : LB E l s' k :=
  ⟨h.1, by rw [hs 9 (by omega) (by omega)]; exact h.2.1, h.2.2.1, fun q => LR_cg (h.2.2.2 q) hs⟩
theorem HR_cg {h : HV} {s s' : FF} (h0 : HR h s) (hs : ∀ j : Nat, j < 220 → s' j = s j) : HR h s' := by
  obtain ⟨n, m, k, g1, g2, g3⟩ := h0
  exact ⟨n, m, k, HR0_cg g1 (fun j q1 _ => hs j (by omega)), LR_cg g2 (fun j q1 _ => hs j q1), pIn_cg g1.1.1 g1.2.1.1 g3 (fun j q1 _ => hs j (by omega))⟩
/-- hours that hold the same -/
def HE (h h' : HV) : Prop :=
  (h'.1.1 = h.1.1 ∧ ∀ i : Nat, i < 12 → h'.1.2.1 i = h.1.2.1 i ∧ h'.1.2.2.1 i = h.1.2.2.1 i ∧ h'.1.2.2.2.1 i = h.1.2.2.2.1 i ∧ h'.1.2.2.2.2.1 i = h.1.2.2.2.2.1 i ∧ h'.1.2.2.2.2.2 i = h.1.2.2.2.2.2 i) ∧
  (h'.2.1.1 = h.2.1.1 ∧ ∀ i : Nat, i < 10 → h'.2.1.2.1 i = h.2.1.2.1 i ∧ h'.2.1.2.2.1 i = h.2.1.2.2.1 i ∧ h'.2.1.2.2.2.1 i = h.2.1.2.2.2.1 i) ∧
  (h'.2.2.1.1 = h.2.2.1.1 ∧ ∀ i : Nat, i < 35 → h'.2.2.1.2.1 i = h.2.2.1.2.1 i ∧ h'.2.2.1.2.2.1 i = h.2.2.1.2.2.1 i ∧ h'.2.2.1.2.2.2 i = h.2.2.1.2.2.2 i) ∧
  h'.2.2.2 = h.2.2.2
theorem cpy_lt {f g : FF} {N i : Nat} (h : i < N) : va_cpy f g 0 0 N i = f i := by
  unfold va_cpy
  rw [if_pos ⟨Nat.zero_le _, by omega⟩, Nat.sub_zero, Nat.zero_add]
theorem cpy2 (v w : HV) : ∃ r : HV, f_X2_copyFrom v w = some r ∧ HE w r := by
  refine ⟨_, rfl, ⟨rfl, fun i hi => ⟨cpy_lt hi, cpy_lt hi, cpy_lt hi, cpy_lt hi, cpy_lt hi⟩⟩, ⟨rfl, fun i hi => ⟨cpy_lt hi, cpy_lt hi, cpy_lt hi⟩⟩, ⟨rfl, fun i hi => ⟨cpy_lt hi, cpy_lt hi, cpy_lt hi⟩⟩, rfl⟩
theorem HE_0 {h h' : HV} {s : FF} {n m : Nat} (he : HE h h') (h0 : HR0 h s n m) : HR0 h' s n m := by
  obtain ⟨r1, r2, r3, r4, r5, r6, r7, r8⟩ := h0
  obtain ⟨⟨a1, a2⟩, ⟨b1, b2⟩, -, d⟩ := he
  have hn := r1.1
  have hm := r2.1
  refine ⟨⟨hn, a1.trans r1.2.1, r1.2.2.1, fun i hi => ?_⟩, ⟨hm, b1.trans r2.2.1, r2.2.2.1, fun i hi => ?_⟩, ?_, ?_, ?_, ?_, ?_, ?_⟩
  · obtain ⟨e1, e2, e3, e4, e5⟩ := r1.2.2.2 i hi
    obtain ⟨f1, f2, f3, f4, f5⟩ := a2 i (by omega)
    exact ⟨f1.trans e1, f2.trans e2, f3.trans e3, f4.trans e4, f5.trans e5⟩
  · obtain ⟨e1, e2, e3⟩ := r2.2.2.2 i hi
    obtain ⟨f1, f2, f3⟩ := b2 i (by omega)
    exact ⟨f1.trans e1, f2.trans e2, f3.trans e3⟩
  · rw [d]; exact r3
  · rw [d]; exact r4
  · rw [d]; exact r5
  · rw [d]; exact r6
  · rw [d]; exact r7
  · rw [d]; exact r8
theorem HE_L {h h' : HV} {s : FF} {k : Nat} (he : HE h h') (h0 : LR h.2.2.1 s k) : LR h'.2.2.1 s k := by
  obtain ⟨-, -, ⟨c1, c2⟩, -⟩ := he
  obtain ⟨q1, q2, q3, q4⟩ := h0
  refine ⟨q1, c1.trans q2, q3, fun i hi => ?_⟩
  obtain ⟨e1, e2, e3⟩ := q4 i hi
  obtain ⟨f1, f2, f3⟩ := c2 i (by omega)
  exact ⟨f1.trans e1, f2.trans e2, f3.trans e3⟩
theorem HE_R {h h' : HV} {s : FF} (he : HE h h') (h0 : HR h s) : HR h' s := by
  obtain ⟨n, m, k, g1, g2, g3⟩ := h0
  exact ⟨n, m, k, HE_0 he g1, HE_L he g2, g3⟩
theorem LB_t {l : LV} {s : FF} {k : Nat} (h : LR l s k) : LB True l s k := ⟨h.1, h.2.2.1, ⟨k, h.1, h.2.1⟩, fun _ => h⟩
/-- a stretch of a row is put -/
theorem cpg (D : Nat) (V : Nat → Int32) (n : Nat) (G : FF) : (∀ a : Nat, a < n → pF (fun a x => upd x (D + a) (V a)) n 0 G (D + a) = V a) ∧ ∀ i : Nat, (i < D ∨ D + n ≤ i) → pF (fun a x => upd x (D + a) (V a)) n 0 G i = G i := by
  have h := pF_ind (G := fun a x => upd x (D + a) (V a)) (fun a (x : FF) => (∀ b : Nat, b < a → x (D + b) = V b) ∧ ∀ i : Nat, (i < D ∨ D + a ≤ i) → x i = G i) n 0 G ⟨fun b hb => absurd hb (Nat.not_lt_zero _), fun i _ => rfl⟩ (fun a x h1 h2 h3 => ⟨fun b hb => by
    show upd x (D + a) (V a) (D + b) = V b
    by_cases hba : b = a
    · subst hba; exact pk_us
    · rw [pk_un (by omega)]; exact h3.1 b (by omega), fun i hi => by
    show upd x (D + a) (V a) i = G i
    rw [pk_un (by omega)]; exact h3.2 i (by omega)⟩)
  rw [Nat.zero_add] at h
  exact h
