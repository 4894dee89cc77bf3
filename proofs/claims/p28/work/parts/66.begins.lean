/-! The pure part: the next hour begins. -/
theorem pGr_z {s : FF} {n : Nat} (h : ∀ i : Nat, i < n → pB s i = -1) : pGr s n = 0 := by
  have key : ∀ k : Nat, k ≤ n → pGr s k = 0 := by
    intro k
    induction k with
    | zero => intro _; rfl
    | succ k ih =>
      intro hk
      rw [pGr_s (by unfold pLate; rw [h k (by omega)]; split <;> rfl)]
      exact ih (by omega)
  exact key n (Nat.le_refl _)
theorem alw0 {e : EV} {n : Nat} (hn : n ≤ 12) (h1 : e.1 = nI n) : ∃ st bg : FF, f_X0_allWait e = some (e.1, e.2.1, e.2.2.1, e.2.2.2.1, st, bg) ∧ ∀ i : Nat, i < n → st i = 0 ∧ bg i = -1 := by
  have q1 := zlF' (f := s_X0_allWait_2 e) (fun a (x : FF × FF) => (nI a, x.1, x.2)) (fun x => (nI n, x.1, x.2)) (fun a x => (upd x.1 a 0, upd x.2 a (-1))) n
    (fun a x ha => by
      unfold s_X0_allWait_2
      rw [h1, if_neg (by rw [nI_leI (by omega) (by omega)]; omega), if_pos (zin_n (by omega) (by omega)), if_pos (zin_n (by omega) (by omega)), cl_n (by omega), nI_1])
    (fun x => by
      unfold s_X0_allWait_2
      rw [h1, if_pos (Int32.le_refl _)]) n 0 (e.2.2.2.2.1, e.2.2.2.2.2) 4096 (by omega) (by omega)
  have q2 := pF_ind (G := fun a (x : FF × FF) => (upd x.1 a 0, upd x.2 a (-1))) (fun a (x : FF × FF) => ∀ i : Nat, i < a → x.1 i = 0 ∧ x.2 i = -1) n 0 (e.2.2.2.2.1, e.2.2.2.2.2) (fun i hi => absurd hi (Nat.not_lt_zero _)) (fun a x w1 w2 w3 i hi => by
    show upd x.1 a 0 i = 0 ∧ upd x.2 a (-1) i = -1
    by_cases hia : i = a
    · subst hia; exact ⟨pk_us, pk_us⟩
    · rw [pk_un hia, pk_un hia]; exact w3 i (by omega))
  rw [Nat.zero_add] at q2
  obtain ⟨r, hr⟩ : ∃ r : FF × FF, r = pF (fun a (x : FF × FF) => (upd x.1 a 0, upd x.2 a (-1))) n 0 (e.2.2.2.2.1, e.2.2.2.2.2) := ⟨_, rfl⟩
  rw [← hr] at q1 q2
  have q3 : zloop (s_X0_allWait_2 e) 4096 (0, e.2.2.2.2.1, e.2.2.2.2.2) = some (nI n, r.1, r.2) := q1
  refine ⟨r.1, r.2, ?_, q2⟩
  unfold f_X0_allWait
  rw [q3, Option.bind_some]
theorem alw1 {f : FV} {m : Nat} (hm : m ≤ 10) (h1 : f.1 = nI m) : ∃ st bg : FF, f_X1_allWait f = some (f.1, f.2.1, st, bg, f.2.2.2.2) ∧ ∀ i : Nat, i < m → st i = 0 ∧ bg i = -1 := by
  have q1 := zlF' (f := s_X1_allWait_2 f) (fun a (x : FF × FF) => (nI a, x.1, x.2)) (fun x => (nI m, x.1, x.2)) (fun a x => (upd x.1 a 0, upd x.2 a (-1))) m
    (fun a x ha => by
      unfold s_X1_allWait_2
      rw [h1, if_neg (by rw [nI_leI (by omega) (by omega)]; omega), if_pos (zin_n (by omega) (by omega)), if_pos (zin_n (by omega) (by omega)), cl_n (by omega), nI_1])
    (fun x => by
      unfold s_X1_allWait_2
      rw [h1, if_pos (Int32.le_refl _)]) m 0 (f.2.2.1, f.2.2.2.1) 4096 (by omega) (by omega)
  have q2 := pF_ind (G := fun a (x : FF × FF) => (upd x.1 a 0, upd x.2 a (-1))) (fun a (x : FF × FF) => ∀ i : Nat, i < a → x.1 i = 0 ∧ x.2 i = -1) m 0 (f.2.2.1, f.2.2.2.1) (fun i hi => absurd hi (Nat.not_lt_zero _)) (fun a x w1 w2 w3 i hi => by
    show upd x.1 a 0 i = 0 ∧ upd x.2 a (-1) i = -1
    by_cases hia : i = a
    · subst hia; exact ⟨pk_us, pk_us⟩
    · rw [pk_un hia, pk_un hia]; exact w3 i (by omega))
  rw [Nat.zero_add] at q2
  obtain ⟨r, hr⟩ : ∃ r : FF × FF, r = pF (fun a (x : FF × FF) => (upd x.1 a 0, upd x.2 a (-1))) m 0 (f.2.2.1, f.2.2.2.1) := ⟨_, rfl⟩
  rw [← hr] at q1 q2
  have q3 : zloop (s_X1_allWait_2 f) 4096 (0, f.2.2.1, f.2.2.2.1) = some (nI m, r.1, r.2) := q1
  refine ⟨r.1, r.2, ?_, q2⟩
  unfold f_X1_allWait
  rw [q3, Option.bind_some]
/-- all rows of the elements wait; of the fillers -/
theorem bg38 {u : MV} {G : FF} {n : Nat} (hn : n ≤ 12) (h7 : G 7 = nI n) : ∃ s' : FF, zloop (s_X7_begins_38 u) 4096 (0, G) = some (nI n, s') ∧ (∀ i : Nat, i < n → pS s' i = 0 ∧ pB s' i = -1) ∧ ∀ j : Nat, (∀ a : Nat, a < n → j ≠ 10 + 5 * a + 3 ∧ j ≠ 10 + 5 * a + 4) → s' j = G j := by
  have e3 : ∀ i : Nat, (10 + (5 * nI i)) + 3 = nI (10 + 5 * i + 3) := fun i => x7i (w := 3)
  have e4 : ∀ i : Nat, (10 + (5 * nI i)) + 4 = nI (10 + 5 * i + 4) := fun i => x7i (w := 4)
  have q1 := zlF (f := s_X7_begins_38 u) (fun a (x : FF) => (nI a, x)) (fun x => (nI n, x)) (fun a x => upd (upd x (10 + 5 * a + 3) 0) (10 + 5 * a + 4) (-1)) n (fun a (x : FF) => x 7 = nI n)
    (fun a x ha hp => by
      refine ⟨?_, by rw [pk_un (by omega), pk_un (by omega)]; exact hp⟩
      unfold s_X7_begins_38
      simp only [hp, e3, e4]
      rw [if_neg (by rw [nI_leI (by omega) (by omega)]; omega), if_pos (zin_n (by omega) (by omega)), if_pos (zin_n (by omega) (by omega)), cl_n (by omega), cl_n (by omega), nI_1])
    (fun x hp => by
      unfold s_X7_begins_38
      simp only [hp]
      rw [if_pos (Int32.le_refl _)]) n 0 G 4096 (by omega) (by omega) h7
  have q2 := pF_ind (G := fun a (x : FF) => upd (upd x (10 + 5 * a + 3) 0) (10 + 5 * a + 4) (-1)) (fun a (x : FF) => (∀ i : Nat, i < a → x (10 + 5 * i + 3) = 0 ∧ x (10 + 5 * i + 4) = -1) ∧ ∀ j : Nat, (∀ b : Nat, b < a → j ≠ 10 + 5 * b + 3 ∧ j ≠ 10 + 5 * b + 4) → x j = G j) n 0 G ⟨fun i hi => absurd hi (Nat.not_lt_zero _), fun j _ => rfl⟩ (fun a x w1 w2 w3 => by
    refine ⟨fun i hi => ?_, fun j hj => ?_⟩
    · by_cases hia : i = a
      · subst hia; exact ⟨by rw [pk_un (by omega), pk_us], pk_us⟩
      · rw [pk_un (by omega), pk_un (by omega), pk_un (by omega), pk_un (by omega)]; exact w3.1 i (by omega)
    · have := hj a (by omega)
      rw [pk_un this.2, pk_un this.1]
      exact w3.2 j (fun b hb => hj b (by omega)))
  rw [Nat.zero_add] at q2
  obtain ⟨r, hr⟩ : ∃ r : FF, r = pF (fun a (x : FF) => upd (upd x (10 + 5 * a + 3) 0) (10 + 5 * a + 4) (-1)) n 0 G := ⟨_, rfl⟩
  rw [← hr] at q1 q2
  exact ⟨r, q1, q2.1, q2.2⟩
theorem bg85 {u : MV} {G : FF} {m : Nat} (hm : m ≤ 10) (h8 : G 8 = nI m) : ∃ s' : FF, zloop (s_X7_begins_85 u) 4096 (0, G) = some (nI m, s') ∧ (∀ i : Nat, i < m → pfS s' i = 0 ∧ pfB s' i = -1) ∧ ∀ j : Nat, (∀ a : Nat, a < m → j ≠ 70 + 3 * a + 1 ∧ j ≠ 70 + 3 * a + 2) → s' j = G j := by
  have e3 : ∀ i : Nat, (70 + (3 * nI i)) + 1 = nI (70 + 3 * i + 1) := fun i => x7j (w := 1)
  have e4 : ∀ i : Nat, (70 + (3 * nI i)) + 2 = nI (70 + 3 * i + 2) := fun i => x7j (w := 2)
  have q1 := zlF (f := s_X7_begins_85 u) (fun a (x : FF) => (nI a, x)) (fun x => (nI m, x)) (fun a x => upd (upd x (70 + 3 * a + 1) 0) (70 + 3 * a + 2) (-1)) m (fun a (x : FF) => x 8 = nI m)
    (fun a x ha hp => by
      refine ⟨?_, by rw [pk_un (by omega), pk_un (by omega)]; exact hp⟩
      unfold s_X7_begins_85
      simp only [hp, e3, e4]
      rw [if_neg (by rw [nI_leI (by omega) (by omega)]; omega), if_pos (zin_n (by omega) (by omega)), if_pos (zin_n (by omega) (by omega)), cl_n (by omega), cl_n (by omega), nI_1])
    (fun x hp => by
      unfold s_X7_begins_85
      simp only [hp]
      rw [if_pos (Int32.le_refl _)]) m 0 G 4096 (by omega) (by omega) h8
  have q2 := pF_ind (G := fun a (x : FF) => upd (upd x (70 + 3 * a + 1) 0) (70 + 3 * a + 2) (-1)) (fun a (x : FF) => (∀ i : Nat, i < a → x (70 + 3 * i + 1) = 0 ∧ x (70 + 3 * i + 2) = -1) ∧ ∀ j : Nat, (∀ b : Nat, b < a → j ≠ 70 + 3 * b + 1 ∧ j ≠ 70 + 3 * b + 2) → x j = G j) m 0 G ⟨fun i hi => absurd hi (Nat.not_lt_zero _), fun j _ => rfl⟩ (fun a x w1 w2 w3 => by
    refine ⟨fun i hi => ?_, fun j hj => ?_⟩
    · by_cases hia : i = a
      · subst hia; exact ⟨by rw [pk_un (by omega), pk_us], pk_us⟩
      · rw [pk_un (by omega), pk_un (by omega), pk_un (by omega), pk_un (by omega)]; exact w3.1 i (by omega)
    · have := hj a (by omega)
      rw [pk_un this.2, pk_un this.1]
      exact w3.2 j (fun b hb => hj b (by omega)))
  rw [Nat.zero_add] at q2
  obtain ⟨r, hr⟩ : ∃ r : FF, r = pF (fun a (x : FF) => upd (upd x (70 + 3 * a + 1) 0) (70 + 3 * a + 2) (-1)) m 0 G := ⟨_, rfl⟩
  rw [← hr] at q1 q2
  exact ⟨r, q1, q2.1, q2.2⟩
theorem bgn2 {h : HV} {u : MV} {n m k : Nat} (h0 : HR0 h u.1 n m) (hin : pIn u.1 n m k) :
    ∃ (h' : HV) (s' : FF), f_X2_beginAnew h = some h' ∧ f_X7_begins u = some (s', u.2) ∧ h'.2.2.2.2.2.2.2.1 = s' 6 ∧ HR h' s' ∧ ∀ x : Int32, HR (h'.1, h'.2.1, h'.2.2.1, h'.2.2.2.1, h'.2.2.2.2.1, h'.2.2.2.2.2.1, h'.2.2.2.2.2.2.1, x, h'.2.2.2.2.2.2.2.2) (upd s' 6 x) := by
  obtain ⟨r1, r2, r3, r4, r5, r6, r7, r8⟩ := h0
  have hn := r1.1
  have hm := r2.1
  obtain ⟨st, bg, a1, a2⟩ := alw0 (e := h.1) hn r1.2.1
  obtain ⟨sf, bf, b1, b2⟩ := alw1 (f := h.2.1) hm r2.2.1
  obtain ⟨s0, hs0⟩ : ∃ s0 : FF, s0 = upd (upd (upd (upd (upd u.1 0 0) 1 0) 2 0) 5 0) 9 0 := ⟨_, rfl⟩
  have zz : ∀ j : Nat, j ≠ 0 → j ≠ 1 → j ≠ 2 → j ≠ 5 → j ≠ 9 → s0 j = u.1 j := fun j q1 q2 q3 q4 q5 => by
    rw [hs0, pk_un q5, pk_un q4, pk_un q3, pk_un q2, pk_un q1]
  obtain ⟨s1, c1, c2, c3⟩ := bg38 (u := (s0, u.2)) (G := s0) hn ((zz 7 (by omega) (by omega) (by omega) (by omega) (by omega)).trans r1.2.2.1)
  have h8 : s1 8 = nI m := (c3 8 (fun a ha => ⟨by omega, by omega⟩)).trans ((zz 8 (by omega) (by omega) (by omega) (by omega) (by omega)).trans r2.2.2.1)
  obtain ⟨s2, d1, d2, d3⟩ := bg85 (u := (s1, u.2)) (G := s1) hm h8
  have ww : ∀ j : Nat, (∀ a : Nat, a < n → j ≠ 10 + 5 * a + 3 ∧ j ≠ 10 + 5 * a + 4) → (∀ a : Nat, a < m → j ≠ 70 + 3 * a + 1 ∧ j ≠ 70 + 3 * a + 2) → s2 j = s0 j := fun j q1 q2 => (d3 j q2).trans (c3 j q1)
  have w6 : s2 6 = u.1 6 := (ww 6 (fun a ha => ⟨by omega, by omega⟩) (fun a ha => ⟨by omega, by omega⟩)).trans (zz 6 (by omega) (by omega) (by omega) (by omega) (by omega))
  have w7 : s2 7 = nI n := (ww 7 (fun a ha => ⟨by omega, by omega⟩) (fun a ha => ⟨by omega, by omega⟩)).trans ((zz 7 (by omega) (by omega) (by omega) (by omega) (by omega)).trans r1.2.2.1)
  have w8 : s2 8 = nI m := (ww 8 (fun a ha => ⟨by omega, by omega⟩) (fun a ha => ⟨by omega, by omega⟩)).trans ((zz 8 (by omega) (by omega) (by omega) (by omega) (by omega)).trans r2.2.2.1)
  have w0 : s2 0 = 0 := (ww 0 (fun a ha => ⟨by omega, by omega⟩) (fun a ha => ⟨by omega, by omega⟩)).trans (by rw [hs0, pk_un (by omega), pk_un (by omega), pk_un (by omega), pk_un (by omega), pk_us])
  have w1 : s2 1 = 0 := (ww 1 (fun a ha => ⟨by omega, by omega⟩) (fun a ha => ⟨by omega, by omega⟩)).trans (by rw [hs0, pk_un (by omega), pk_un (by omega), pk_un (by omega), pk_us])
  have w2 : s2 2 = 0 := (ww 2 (fun a ha => ⟨by omega, by omega⟩) (fun a ha => ⟨by omega, by omega⟩)).trans (by rw [hs0, pk_un (by omega), pk_un (by omega), pk_us])
  have w5 : s2 5 = 0 := (ww 5 (fun a ha => ⟨by omega, by omega⟩) (fun a ha => ⟨by omega, by omega⟩)).trans (by rw [hs0, pk_un (by omega), pk_us])
  have w9 : s2 9 = 0 := (ww 9 (fun a ha => ⟨by omega, by omega⟩) (fun a ha => ⟨by omega, by omega⟩)).trans (by rw [hs0, pk_us])
  have hL : ∀ j : Nat, j < n → pL s2 j = pL u.1 j := fun j hj => (ww _ (fun a ha => ⟨by omega, by omega⟩) (fun a ha => ⟨by omega, by omega⟩)).trans (zz _ (by omega) (by omega) (by omega) (by omega) (by omega))
  have hT : ∀ j : Nat, j < n → pT s2 j = pT u.1 j := fun j hj => (ww _ (fun a ha => ⟨by omega, by omega⟩) (fun a ha => ⟨by omega, by omega⟩)).trans (zz _ (by omega) (by omega) (by omega) (by omega) (by omega))
  have hK : ∀ j : Nat, j < n → pK s2 j = pK u.1 j := fun j hj => (ww _ (fun a ha => ⟨by omega, by omega⟩) (fun a ha => ⟨by omega, by omega⟩)).trans (zz _ (by omega) (by omega) (by omega) (by omega) (by omega))
  have hfL : ∀ j : Nat, j < m → pfL s2 j = pfL u.1 j := fun j hj => (ww _ (fun a ha => ⟨by omega, by omega⟩) (fun a ha => ⟨by omega, by omega⟩)).trans (zz _ (by omega) (by omega) (by omega) (by omega) (by omega))
  have hS : ∀ j : Nat, j < n → pS s2 j = 0 := fun j hj => (d3 _ (fun a ha => ⟨by omega, by omega⟩)).trans (c2 j hj).1
  have hB : ∀ j : Nat, j < n → pB s2 j = -1 := fun j hj => (d3 _ (fun a ha => ⟨by omega, by omega⟩)).trans (c2 j hj).2
  have hall : ∀ (x : Int32) (s' : FF), s' 6 = x → (∀ j : Nat, j ≠ 6 → s' j = s2 j) → HR ((h.1.1, h.1.2.1, h.1.2.2.1, h.1.2.2.2.1, st, bg), (h.2.1.1, h.2.1.2.1, sf, bf, h.2.1.2.2.2.2), (0, h.2.2.1.2.1, h.2.2.1.2.2.1, h.2.2.1.2.2.2), 0, false, 0, 0, x, -1, -1, 0) s' := by
    intro x s' g6 gg
    have gL : ∀ j : Nat, j < n → pL s' j = pL u.1 j := fun j hj => (gg _ (by omega)).trans (hL j hj)
    have gT : ∀ j : Nat, j < n → pT s' j = pT u.1 j := fun j hj => (gg _ (by omega)).trans (hT j hj)
    have gK : ∀ j : Nat, j < n → pK s' j = pK u.1 j := fun j hj => (gg _ (by omega)).trans (hK j hj)
    have gS : ∀ j : Nat, j < n → pS s' j = 0 := fun j hj => (gg _ (by omega)).trans (hS j hj)
    have gB : ∀ j : Nat, j < n → pB s' j = -1 := fun j hj => (gg _ (by omega)).trans (hB j hj)
    have gfL : ∀ j : Nat, j < m → pfL s' j = pfL u.1 j := fun j hj => (gg _ (by omega)).trans (hfL j hj)
    have gfS : ∀ j : Nat, j < m → pfS s' j = 0 := fun j hj => (gg _ (by omega)).trans (d2 j hj).1
    have gfB : ∀ j : Nat, j < m → pfB s' j = -1 := fun j hj => (gg _ (by omega)).trans (d2 j hj).2
    refine ⟨n, m, 0, ⟨⟨hn, r1.2.1, (gg 7 (by omega)).trans w7, fun i hi => ?_⟩, ⟨hm, r2.2.1, (gg 8 (by omega)).trans w8, fun i hi => ?_⟩, ((gg 0 (by omega)).trans w0).symm, ((gg 1 (by omega)).trans w1).symm, ((gg 5 (by omega)).trans w5).symm, (pGr_z gB).symm, g6.symm, Or.inl ⟨rfl, (gg 2 (by omega)).trans w2⟩⟩, ⟨Nat.zero_le _, rfl, (gg 9 (by omega)).trans w9, fun i hi => absurd hi (Nat.not_lt_zero _)⟩, ⟨fun i hi => ?_, fun i hi => ?_, Or.inl ((gg 1 (by omega)).trans w1), 0, (gg 0 (by omega)).trans w0, Nat.zero_le _, Or.inl ⟨(gg 2 (by omega)).trans w2, Nat.zero_le _⟩⟩⟩
    · obtain ⟨e1, e2, e3, -, -⟩ := r1.2.2.2 i hi
      rw [gL i hi, gT i hi, gK i hi, gS i hi, gB i hi]
      exact ⟨e1, e2, e3, (a2 i hi).1, (a2 i hi).2⟩
    · obtain ⟨e1, -, -⟩ := r2.2.2.2 i hi
      rw [gfL i hi, gfS i hi, gfB i hi]
      exact ⟨e1, (b2 i hi).1, (b2 i hi).2⟩
    · rw [gL i hi, gT i hi]
      exact ⟨(hin.1 i hi).1, (hin.1 i hi).2.1, Or.inl ⟨gS i hi, gB i hi⟩⟩
    · rw [gfL i hi]
      exact hin.2.1 i hi
  refine ⟨((h.1.1, h.1.2.1, h.1.2.2.1, h.1.2.2.2.1, st, bg), (h.2.1.1, h.2.1.2.1, sf, bf, h.2.1.2.2.2.2), (0, h.2.2.1.2.1, h.2.2.1.2.2.1, h.2.2.1.2.2.2), 0, false, 0, 0, h.2.2.2.2.2.2.2.1, -1, -1, 0), s2, ?_, ?_, r7.trans w6.symm, hall _ s2 (w6.trans r7.symm) (fun j _ => rfl), fun x => hall x _ pk_us (fun j hj => pk_un hj)⟩
  · unfold f_X2_beginAnew
    rw [a1, Option.bind_some, b1, Option.bind_some]
    rfl
  · unfold f_X7_begins
    rw [← hs0]
    have c1' : zloop (s_X7_begins_38 (s0, u.2.1, u.2.2.1, u.2.2.2.1, u.2.2.2.2.1, u.2.2.2.2.2.1, u.2.2.2.2.2.2.1, u.2.2.2.2.2.2.2.1, u.2.2.2.2.2.2.2.2.1, u.2.2.2.2.2.2.2.2.2.1, u.2.2.2.2.2.2.2.2.2.2)) 4096 (0, s0) = some (nI n, s1) := c1
    rw [c1', Option.bind_some]
    have d1' : zloop (s_X7_begins_85 (s1, u.2.1, u.2.2.1, u.2.2.2.1, u.2.2.2.2.1, u.2.2.2.2.2.1, u.2.2.2.2.2.2.1, u.2.2.2.2.2.2.2.1, u.2.2.2.2.2.2.2.2.1, u.2.2.2.2.2.2.2.2.2.1, u.2.2.2.2.2.2.2.2.2.2)) 4096 (0, s1) = some (nI m, s2) := d1
    show (zloop (s_X7_begins_85 (s1, u.2.1, u.2.2.1, u.2.2.2.1, u.2.2.2.2.1, u.2.2.2.2.2.1, u.2.2.2.2.2.2.1, u.2.2.2.2.2.2.2.1, u.2.2.2.2.2.2.2.2.1, u.2.2.2.2.2.2.2.2.2.1, u.2.2.2.2.2.2.2.2.2.2)) 4096 (0, s1)).bind _ = _
    rw [d1', Option.bind_some]
