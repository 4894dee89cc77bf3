/-! The pure part: an entry of the log; an element is let go. -/
theorem ER_ag {e : EV} {s s' : FF} {n : Nat} (h : ER e s n) (hs : ∀ j : Nat, j < 70 → j ≠ 9 → (j = 7 ∨ 10 ≤ j) → s' j = s j) : ER e s' n := by
  obtain ⟨h1, h2, h3, h4⟩ := h
  refine ⟨h1, h2, by rw [hs 7 (by omega) (by omega) (by omega)]; exact h3, fun i hi => ?_⟩
  obtain ⟨e1, e2, e3, e4, e5⟩ := h4 i hi
  unfold pL pT pK pS pB at *
  rw [hs (10 + 5 * i) (by omega) (by omega) (by omega), hs (10 + 5 * i + 1) (by omega) (by omega) (by omega), hs (10 + 5 * i + 2) (by omega) (by omega) (by omega), hs (10 + 5 * i + 3) (by omega) (by omega) (by omega), hs (10 + 5 * i + 4) (by omega) (by omega) (by omega)]
  exact ⟨e1, e2, e3, e4, e5⟩
theorem FR_ag {f : FV} {s s' : FF} {m : Nat} (h : FR f s m) (hs : ∀ j : Nat, j < 100 → (j = 8 ∨ 70 ≤ j) → s' j = s j) : FR f s' m := by
  obtain ⟨h1, h2, h3, h4⟩ := h
  refine ⟨h1, h2, by rw [hs 8 (by omega) (by omega)]; exact h3, fun i hi => ?_⟩
  obtain ⟨e1, e2, e3⟩ := h4 i hi
  unfold pfL pfS pfB at *
  rw [hs (70 + 3 * i) (by omega) (by omega), hs (70 + 3 * i + 1) (by omega) (by omega), hs (70 + 3 * i + 2) (by omega) (by omega)]
  exact ⟨e1, e2, e3⟩
theorem LR_ag {l : LV} {s s' : FF} {k : Nat} (h : LR l s k) (hs : ∀ j : Nat, (j = 9 ∨ 100 ≤ j) → s' j = s j) : LR l s' k := by
  obtain ⟨h1, h2, h3, h4⟩ := h
  refine ⟨h1, h2, by rw [hs 9 (by omega)]; exact h3, fun i hi => ?_⟩
  obtain ⟨e1, e2, e3⟩ := h4 i hi
  rw [hs (100 + 3 * i) (by omega), hs (100 + 3 * i + 1) (by omega), hs (100 + 3 * i + 2) (by omega)]
  exact ⟨e1, e2, e3⟩
theorem logs2 {l : LV} {u : MV} {k : Nat} (h : LR l u.1 k) (hk : k < 35) (p q : Int32) : ∃ (l' : LV) (s' : FF), f_X3_add l (u.1 0) p q = some l' ∧ f_X7_logs u p q = some (s', u.2) ∧ LR l' s' (k + 1) ∧ ∀ j : Nat, j < 100 → j ≠ 9 → s' j = u.1 j := by
  obtain ⟨h1, h2, h3, h4⟩ := h
  have i0 : (100 : Int32) + (3 * nI k) = nI (100 + 3 * k) := by
    rw [show (100 : Int32) = nI 100 from rfl, show (3 : Int32) = nI 3 from rfl, pk_mul, nI_add]
  have i1 : (100 : Int32) + (3 * nI k) + 1 = nI (100 + 3 * k + 1) := by rw [i0, nI_1]
  have i2 : (100 : Int32) + (3 * nI k) + 2 = nI (100 + 3 * k + 2) := by rw [i0, show (2 : Int32) = nI 2 from rfl, nI_add]
  refine ⟨(nI (k + 1), upd l.2.1 k (u.1 0), upd l.2.2.1 k p, upd l.2.2.2 k q), upd (upd (upd (upd u.1 (100 + 3 * k) (u.1 0)) (100 + 3 * k + 1) p) (100 + 3 * k + 2) q) 9 (nI (k + 1)), ?_, ?_, ⟨by omega, rfl, pk_us, fun i hi => ?_⟩, fun j hj h9 => ?_⟩
  · unfold f_X3_add
    have hlt : nI k < 35 := (show nI k < nI 35 from by rw [nI_ltI (by omega) (by omega)]; exact hk)
    rw [h2, if_pos hlt, if_pos (zin_n (by omega) (by omega)), if_pos (zin_n (by omega) (by omega)), if_pos (zin_n (by omega) (by omega)), cl_n (by omega), nI_1]
  · unfold f_X7_logs
    rw [h3, i2, i1, i0, if_pos (zin_n (by omega) (by omega)), if_pos (zin_n (by omega) (by omega)), if_pos (zin_n (by omega) (by omega)), cl_n (by omega), cl_n (by omega), cl_n (by omega), pk_un (show 9 ≠ 100 + 3 * k + 2 by omega), pk_un (show 9 ≠ 100 + 3 * k + 1 by omega), pk_un (show 9 ≠ 100 + 3 * k by omega), h3, nI_1]
  · by_cases hik : i = k
    · subst hik
      refine ⟨?_, ?_, ?_⟩ <;> dsimp only
      · rw [pk_us, pk_un (by omega), pk_un (by omega), pk_un (by omega), pk_us]
      · rw [pk_us, pk_un (by omega), pk_un (by omega), pk_us]
      · rw [pk_us, pk_un (by omega), pk_us]
    · obtain ⟨e1, e2, e3⟩ := h4 i (by omega)
      refine ⟨?_, ?_, ?_⟩ <;> dsimp only
      · rw [pk_un hik, pk_un (by omega), pk_un (by omega), pk_un (by omega), pk_un (by omega)]; exact e1
      · rw [pk_un hik, pk_un (by omega), pk_un (by omega), pk_un (by omega), pk_un (by omega)]; exact e2
      · rw [pk_un hik, pk_un (by omega), pk_un (by omega), pk_un (by omega), pk_un (by omega)]; exact e3
  · rw [pk_un (by omega), pk_un (by omega), pk_un (by omega), pk_un (by omega)]
/-- the logs: equal (E), or each by itself -/
def LB (E : Prop) (l : LV) (s : FF) (k : Nat) : Prop := k ≤ 35 ∧ s 9 = nI k ∧ (∃ c : Nat, c ≤ 35 ∧ l.1 = nI c) ∧ (E → LR l s k)
theorem LB_ag {E : Prop} {l : LV} {s s' : FF} {k : Nat} (h : LB E l s k) (hs : ∀ j : Nat, (j = 9 ∨ 100 ≤ j) → s' j = s j) : LB E l s' k :=
  ⟨h.1, by rw [hs 9 (by omega)]; exact h.2.1, h.2.2.1, fun q => LR_ag (h.2.2.2 q) hs⟩
theorem logsB {E : Prop} {l : LV} {u : MV} {k : Nat} (h : LB E l u.1 k) (hk : k < 35) (p q : Int32) : ∃ (l' : LV) (s' : FF), f_X3_add l (u.1 0) p q = some l' ∧ f_X7_logs u p q = some (s', u.2) ∧ LB E l' s' (k + 1) ∧ ∀ j : Nat, j < 100 → j ≠ 9 → s' j = u.1 j := by
  by_cases hE : E
  · obtain ⟨l', s', h1, h2, h3, h4⟩ := logs2 (h.2.2.2 hE) hk p q
    exact ⟨l', s', h1, h2, ⟨h3.1, h3.2.2.1, ⟨k + 1, h3.1, h3.2.1⟩, fun _ => h3⟩, h4⟩
  · obtain ⟨l0, s', h1, h2, h3, h4⟩ := logs2 (l := (nI k, fun i => u.1 (100 + 3 * i), fun i => u.1 (100 + 3 * i + 1), fun i => u.1 (100 + 3 * i + 2))) (u := u) (k := k) ⟨h.1, rfl, h.2.1, fun i _ => ⟨rfl, rfl, rfl⟩⟩ hk p q
    obtain ⟨c, hc, hl⟩ := h.2.2.1
    by_cases hc5 : c < 35
    · refine ⟨(nI (c + 1), upd l.2.1 c (u.1 0), upd l.2.2.1 c p, upd l.2.2.2 c q), s', ?_, h2, ⟨h3.1, h3.2.2.1, ⟨c + 1, by omega, rfl⟩, fun q => absurd q hE⟩, h4⟩
      unfold f_X3_add
      have hlt : nI c < 35 := (show nI c < nI 35 from by rw [nI_ltI (by omega) (by omega)]; exact hc5)
      rw [hl, if_pos hlt, if_pos (zin_n (by omega) (by omega)), if_pos (zin_n (by omega) (by omega)), if_pos (zin_n (by omega) (by omega)), cl_n (by omega), nI_1]
    · refine ⟨l, s', ?_, h2, ⟨h3.1, h3.2.2.1, ⟨c, hc, hl⟩, fun q => absurd q hE⟩, h4⟩
      unfold f_X3_add
      have hlt : ¬ nI c < 35 := (show ¬ nI c < nI 35 from by rw [nI_ltI (by omega) (by omega)]; exact hc5)
      rw [hl, if_neg hlt]
theorem pGr_cong {s s' : FF} {n : Nat} (h : ∀ i : Nat, i < n → pLate s' i = pLate s i) : pGr s' n = pGr s n :=
  pF_cong n 0 0 (fun a x _ h2 => by rw [h a (by omega)])
/-- an element that waited is let go -/
theorem pIn_let {s s' : FF} {n m k i : Nat} (hn : n ≤ 12) (hm : m ≤ 10) (h : pIn s n m k) (hi : i < n) (h0 : pS s i = 0) (h3 : pS s' i = 3) (hs : ∀ j : Nat, j < 100 → j ≠ 9 → j ≠ 10 + 5 * i + 3 → s' j = s j) : pIn s' n m (k + 1) := by
  have hL : ∀ j : Nat, j < n → pL s' j = pL s j := fun j hj => hs _ (by omega) (by omega) (by omega)
  have hT : ∀ j : Nat, j < n → pT s' j = pT s j := fun j hj => hs _ (by omega) (by omega) (by omega)
  have hB : ∀ j : Nat, j < n → pB s' j = pB s j := fun j hj => hs _ (by omega) (by omega) (by omega)
  have hS : ∀ j : Nat, j < n → j ≠ i → pS s' j = pS s j := fun j hj hji => hs _ (by omega) (by omega) (by omega)
  have hfL : ∀ j : Nat, j < m → pfL s' j = pfL s j := fun j hj => hs _ (by omega) (by omega) (by omega)
  have hfS : ∀ j : Nat, j < m → pfS s' j = pfS s j := fun j hj => hs _ (by omega) (by omega) (by omega)
  have hE : pCE s n + 1 ≤ pCE s' n := pC_one n (fun j hj hp => by
    by_cases hji : j = i
    · subst hji; exact absurd h0 (of_decide_eq_true hp)
    · rw [hS j hj hji]; exact hp) ⟨i, hi, decide_eq_false (fun q => q h0), decide_eq_true (by rw [h3]; decide)⟩
  have hF : pCF s' m = pCF s m := pC_cong m (fun j hj => by rw [hfS j hj])
  have hTT : ∀ B : Nat, pCT s' n B = pCT s n B := fun B => by
    unfold pCT
    rw [pC_cong n (fun j hj => by rw [hT j hj])]
  obtain ⟨a1, a2, a3, sec, a4, a5, a6⟩ := h
  refine ⟨fun j hj => ?_, fun j hj => by rw [hfL j hj]; exact a2 j hj, by rw [hs 1 (by omega) (by omega) (by omega)]; exact a3, sec, by rw [hs 0 (by omega) (by omega) (by omega)]; exact a4, by rw [hF]; omega, ?_⟩
  · obtain ⟨b1, b2, b3⟩ := a1 j hj
    rw [hL j hj, hT j hj, hB j hj]
    refine ⟨b1, b2, ?_⟩
    by_cases hji : j = i
    · subst hji
      exact Or.inr (Or.inr (Or.inr h3))
    · rw [hS j hj hji]
      rcases b3 with b3 | ⟨b3, b, b4, b5⟩ | b3
      · exact Or.inl b3
      · exact Or.inr (Or.inl ⟨b3, b, by rw [hF]; omega, b5.1, by rw [hs 2 (by omega) (by omega) (by omega)]; exact b5.2.1, by rw [hs 3 (by omega) (by omega) (by omega)]; exact b5.2.2⟩)
      · exact Or.inr (Or.inr b3)
  · rw [hs 2 (by omega) (by omega) (by omega), hs 3 (by omega) (by omega) (by omega), hs 4 (by omega) (by omega) (by omega), hF]
    simp only [hTT]
    rcases a6 with ⟨b1, b2⟩ | ⟨en, b1, b2, b3, ⟨b4, b5, b6⟩ | ⟨b4, b5, b6⟩ | ⟨b4, b5, b6⟩⟩
    · exact Or.inl ⟨b1, by omega⟩
    · exact Or.inr ⟨en, b1, b2, by omega, Or.inl ⟨b4, b5, by omega⟩⟩
    · exact Or.inr ⟨en, b1, b2, by omega, Or.inr (Or.inl ⟨b4, b5, by omega⟩)⟩
    · exact Or.inr ⟨en, b1, b2, by omega, Or.inr (Or.inr ⟨b4, b5, by omega⟩)⟩
theorem pLate_ag {s s' : FF} {i : Nat} (hT : pT s' i = pT s i) (hB : pB s' i = pB s i) : pLate s' i = pLate s i := by
  unfold pLate
  rw [hT, hB]
theorem let2 {E : Prop} {h : HV} {u : MV} {n m k i : Nat} (h0 : HR0 h u.1 n m) (hl : LB E h.2.2.1 u.1 k) (hin : pIn u.1 n m k) (hi : i < n) (hw : pS u.1 i = 0) : ∃ (h' : HV) (s' : FF), f_X2_dropElement h (nI i) = some h' ∧ f_X7_lets u (nI i) = some (s', u.2) ∧ HR0 h' s' n m ∧ LB E h'.2.2.1 s' (k + 1) ∧ pIn s' n m (k + 1) ∧ pS s' i = 3 ∧ ∀ j : Nat, j < 100 → j ≠ 9 → j ≠ 10 + 5 * i + 3 → s' j = u.1 j := by
  obtain ⟨r1, r2, r3, r4, r5, r6, r7, r8⟩ := h0
  have hn := r1.1
  have hm := r2.1
  have hl' : LB E h.2.2.1 (upd u.1 (10 + 5 * i + 3) 3) k := LB_ag hl (fun j hj => pk_un (by omega))
  have hup0 : upd u.1 (10 + 5 * i + 3) 3 0 = u.1 0 := pk_un (by omega)
  -- room for the entry
  have hk : k < 35 := by
    have hin' := pIn_let (s' := upd u.1 (10 + 5 * i + 3) 3) hn hm hin hi hw pk_us (fun j _ _ hj => pk_un hj)
    have := pIn_k hn hm hin'
    omega
  obtain ⟨l', s', g1, g2, g3, g4⟩ := logsB (u := (upd u.1 (10 + 5 * i + 3) 3, u.2)) hl' hk 3 (nI i)
  have g1' : f_X3_add h.2.2.1 h.2.2.2.1 3 (nI i) = some l' := by
    rw [r3]
    have g1'' : f_X3_add h.2.2.1 (upd u.1 (10 + 5 * i + 3) 3 0) 3 (nI i) = some l' := g1
    rw [hup0] at g1''
    exact g1''
  have hs : ∀ j : Nat, j < 100 → j ≠ 9 → j ≠ 10 + 5 * i + 3 → s' j = u.1 j := fun j hj h9 hji => by
    rw [g4 j hj h9]
    exact pk_un hji
  have hs3 : pS s' i = 3 := by
    unfold pS
    rw [g4 _ (by omega) (by omega)]
    exact pk_us
  refine ⟨((h.1.1, h.1.2.1, h.1.2.2.1, h.1.2.2.2.1, upd h.1.2.2.2.2.1 i 3, h.1.2.2.2.2.2), h.2.1, l', h.2.2.2), s', by
    unfold f_X2_dropElement
    rw [hasN r1 hi]
    simp only [Option.bind_some]
    rw [if_neg (show ¬ zb true = 0 by decide), if_pos (zin_n (by omega) (by omega)), g1', cl_n (by omega)]
    rfl, ?_, ⟨⟨hn, r1.2.1, ?_, fun j hj => ?_⟩, FR_ag r2 (fun j hj _ => hs j hj (by omega) (by omega)), ?_, ?_, ?_, ?_, ?_, ?_⟩, g3, pIn_let hn hm hin hi hw hs3 hs, hs3, hs⟩
  · unfold f_X7_lets
    have e3 : (10 + (5 * nI i)) + 3 = nI (10 + 5 * i + 3) := x7i (w := 3)
    rw [e3, if_pos (zin_n (by omega) (by omega)), cl_n (by omega)]
    have g2' : f_X7_logs (upd u.1 (10 + 5 * i + 3) 3, u.2.1, u.2.2.1, u.2.2.2.1, u.2.2.2.2.1, u.2.2.2.2.2.1, u.2.2.2.2.2.2.1, u.2.2.2.2.2.2.2.1, u.2.2.2.2.2.2.2.2.1, u.2.2.2.2.2.2.2.2.2.1, u.2.2.2.2.2.2.2.2.2.2) 3 (nI i) = some (s', u.2) := g2
    rw [g2']
    rfl
  · rw [hs 7 (by omega) (by omega) (by omega)]; exact r1.2.2.1
  · obtain ⟨e1, e2, e3, e4, e5⟩ := r1.2.2.2 j hj
    have q1 : pL s' j = pL u.1 j := hs _ (by omega) (by omega) (by omega)
    have q2 : pT s' j = pT u.1 j := hs _ (by omega) (by omega) (by omega)
    have q3 : pK s' j = pK u.1 j := hs _ (by omega) (by omega) (by omega)
    have q5 : pB s' j = pB u.1 j := hs _ (by omega) (by omega) (by omega)
    rw [q1, q2, q3, q5]
    refine ⟨e1, e2, e3, ?_, e5⟩
    show upd h.1.2.2.2.2.1 i 3 j = _
    by_cases hji : j = i
    · subst hji; rw [pk_us, hs3]
    · rw [pk_un hji]
      exact e4.trans (hs _ (by omega) (by omega) (by omega)).symm
  · rw [hs 0 (by omega) (by omega) (by omega)]; exact r3
  · rw [hs 1 (by omega) (by omega) (by omega)]; exact r4
  · rw [hs 5 (by omega) (by omega) (by omega)]; exact r5
  · rw [pGr_cong (s' := s') (s := u.1) (fun j hj => pLate_ag (hs _ (by omega) (by omega) (by omega)) (hs _ (by omega) (by omega) (by omega)))]; exact r6
  · rw [hs 6 (by omega) (by omega) (by omega)]; exact r7
  · rw [hs 2 (by omega) (by omega) (by omega), hs 3 (by omega) (by omega) (by omega), hs 4 (by omega) (by omega) (by omega)]; exact r8
