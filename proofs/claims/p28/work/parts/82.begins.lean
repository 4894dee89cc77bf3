/-! The law's arrays beside the row: something goes on the air. -/
theorem air7 {u r : MV} {k : Nat} {p0 p1 p2 : Int32} (h9 : u.1 9 = nI k) (hk : k ≤ 40) (h : f_X7_goesOnAir u p0 p1 p2 = some r) : k < 40 ∧ r.2 = u.2 ∧ r.1 (100 + 3 * k) = u.1 0 ∧ r.1 (100 + 3 * k + 1) = p0 - 1 ∧ r.1 (100 + 3 * k + 2) = p1 ∧ r.1 9 = nI (k + 1) ∧ r.1 2 = p0 ∧ r.1 3 = p1 ∧ r.1 4 = u.1 0 + p2 ∧ ∀ j : Nat, j ≠ 9 → j ≠ 2 → j ≠ 3 → j ≠ 4 → (j < 100 + 3 * k ∨ 100 + 3 * k + 3 ≤ j) → r.1 j = u.1 j := by
  unfold f_X7_goesOnAir at h
  obtain ⟨w, hw, h⟩ := ob h
  obtain rfl : w = r := Option.some.inj h
  have z0 : upd (upd u.1 2 p0) 3 p1 0 = u.1 0 := by rw [pk_un (by omega), pk_un (by omega)]
  rw [z0] at hw
  obtain ⟨k40, w2, w0, w1, w3, w9, wr⟩ := lg7 (u := (upd (upd (upd u.1 2 p0) 3 p1) 4 (u.1 0 + p2), u.2)) (by show upd (upd (upd u.1 2 p0) 3 p1) 4 (u.1 0 + p2) 9 = nI k; rw [pk_un (by omega), pk_un (by omega), pk_un (by omega)]; exact h9) hk hw
  refine ⟨k40, w2, w0.trans ?_, w1, w3, w9, (wr 2 (by omega) (by omega)).trans ?_, (wr 3 (by omega) (by omega)).trans ?_, (wr 4 (by omega) (by omega)).trans (show upd (upd (upd u.1 2 p0) 3 p1) 4 (u.1 0 + p2) 4 = u.1 0 + p2 from pk_us), fun j j1 j2 j3 j4 j5 => (wr j j1 j5).trans ?_⟩
  · show upd (upd (upd u.1 2 p0) 3 p1) 4 (u.1 0 + p2) 0 = u.1 0
    rw [pk_un (by omega), pk_un (by omega), pk_un (by omega)]
  · show upd (upd (upd u.1 2 p0) 3 p1) 4 (u.1 0 + p2) 2 = p0
    rw [pk_un (by omega), pk_un (by omega), pk_us]
  · show upd (upd (upd u.1 2 p0) 3 p1) 4 (u.1 0 + p2) 3 = p1
    rw [pk_un (by omega), pk_us]
  · show upd (upd (upd u.1 2 p0) 3 p1) 4 (u.1 0 + p2) j = u.1 j
    rw [pk_un j4, pk_un j3, pk_un j2]
/-- when the elements began -/
def BG (s : FF) (n : Nat) : Prop := ∀ a : Nat, a < n → pB s a = -1 ∨ ∃ b : Nat, b ≤ 100000 ∧ pB s a = nI b
/-- the end of the element on the air -/
def EN (s : FF) (n : Nat) : Prop := ∀ a : Nat, a < n → s 2 = 1 → s 3 = nI a → pS s a = 1 ∧ s 4 = pB s a + pL s a
theorem EN_n {s : FF} {n : Nat} (h : s 2 ≠ 1) : EN s n := fun _ _ q _ => absurd q h
theorem Lgo {g e f l : FF} {u r : MV} {n m k : Nat} {p0 p1 p2 A : Int32} (hR : RB g e f l u.1 n m k) (h : f_X7_goesOnAir u p0 p1 p2 = some r)
    (hA : (p0 = 1 ∧ ∃ a : Nat, a < n ∧ p1 = nI a ∧ A = nI (1 + a)) ∨ (p0 = 2 ∧ ∃ a : Nat, a < m ∧ p1 = nI a ∧ A = nI (21 + a)) ∨ (p0 = 3 ∧ A = nI 40)) :
    ∃ l' : FF, f_L_notes (upd (upd g 4 A) 5 p2) l (p0 - 1) p1 = some (upd (upd (upd g 4 A) 5 p2) 8 (nI (k + 1)), l') ∧ r.2 = u.2 ∧ RW (upd (upd (upd g 4 A) 5 p2) 8 (nI (k + 1))) e f l' r.1 n m (k + 1) ∧ r.1 2 = p0 ∧ r.1 3 = p1 ∧ r.1 4 = u.1 0 + p2 ∧ ∀ j : Nat, 10 ≤ j → j < 100 → r.1 j = u.1 j := by
  obtain ⟨r1, r2, r3, g0, g1, g2, g3, g6, g7, g8, s7, s8, s9, hE, hF, hN⟩ := hR
  obtain ⟨k40, w2, w0, w1, w3, w9, a2, a3, a4, wr⟩ := air7 s9 r3 h
  have gg : ∀ j : Nat, j ≠ 4 → j ≠ 5 → upd (upd g 4 A) 5 p2 j = g j := fun j j4 j5 => by rw [pk_un j5, pk_un j4]
  have gh : ∀ j : Nat, j ≠ 4 → j ≠ 5 → j ≠ 8 → upd (upd (upd g 4 A) 5 p2) 8 (nI (k + 1)) j = g j := fun j j4 j5 j8 => by rw [pk_un j8, gg j j4 j5]
  obtain ⟨l', q1, q2⟩ := Lno (g := upd (upd g 4 A) 5 p2) (l := l) (s := u.1) (k := k) (by omega) (by rw [gg 8 (by omega) (by omega)]; exact g8) (by rw [gg 2 (by omega) (by omega)]; exact g2) hN (p0 - 1) p1
  have y0 : r.1 0 = u.1 0 := wr 0 (by omega) (by omega) (by omega) (by omega) (by omega)
  refine ⟨l', q1, w2, ⟨⟨r1, r2, by omega, ?_, ?_, ?_, ?_, ?_, ?_, pk_us, ?_, ?_, w9, EL_cg hE (fun i w hi hw => wr _ (by omega) (by omega) (by omega) (by omega) (by omega)), FL_cg hF (fun i w hi hw => wr _ (by omega) (by omega) (by omega) (by omega) (by omega)), q2 r.1 w0 w1 w3 (fun j j1 j2 => wr j (by omega) (by omega) (by omega) (by omega) (by omega))⟩, ?_⟩, a2, a3, a4, fun j j1 j2 => wr j (by omega) (by omega) (by omega) (by omega) (by omega)⟩
  · rw [gh 0 (by omega) (by omega) (by omega)]; exact g0
  · rw [gh 1 (by omega) (by omega) (by omega)]; exact g1
  · rw [gh 2 (by omega) (by omega) (by omega), y0]; exact g2
  · rw [gh 3 (by omega) (by omega) (by omega), wr 1 (by omega) (by omega) (by omega) (by omega) (by omega)]; exact g3
  · rw [gh 6 (by omega) (by omega) (by omega), wr 5 (by omega) (by omega) (by omega) (by omega) (by omega)]; exact g6
  · rw [gh 7 (by omega) (by omega) (by omega), wr 6 (by omega) (by omega) (by omega) (by omega) (by omega)]; exact g7
  · rw [wr 7 (by omega) (by omega) (by omega) (by omega) (by omega)]; exact s7
  · rw [wr 8 (by omega) (by omega) (by omega) (by omega) (by omega)]; exact s8
  · have e4 : upd (upd (upd g 4 A) 5 p2) 8 (nI (k + 1)) 4 = A := by rw [pk_un (by omega), pk_un (by omega), pk_us]
    have e5 : upd (upd (upd g 4 A) 5 p2) 8 (nI (k + 1)) 5 = r.1 4 - r.1 0 := by
      rw [pk_un (by omega), pk_us, a4, y0, Int32.add_comm, Int32.add_sub_cancel]
    unfold AIR
    rw [e4, a2, a3]
    rcases hA with ⟨h1, a, b1, b2, b3⟩ | ⟨h1, a, b1, b2, b3⟩ | ⟨h1, b3⟩
    · exact Or.inr (Or.inl ⟨h1, ⟨a, b1, b2, b3⟩, e5⟩)
    · exact Or.inr (Or.inr (Or.inl ⟨h1, ⟨a, b1, b2, b3⟩, e5⟩))
    · exact Or.inr (Or.inr (Or.inr ⟨h1, b3, e5⟩))
/-- an element begins -/
theorem Lbe {g e f l : FF} {u r : MV} {n m k i : Nat} (hR : RB g e f l u.1 n m k) (hi : i < n) (h : f_X7_beginsElement u (nI i) = some r) : ∃ g' e' l' : FF, f_L_begins g e l (nI i) = some (g', e', l') ∧ RW g' e' f l' r.1 n m (k + 1) ∧ EN r.1 n ∧ ∀ a : Nat, a < n → pB r.1 a = pB u.1 a ∨ pB r.1 a = u.1 0 := by
  have hR' := hR
  obtain ⟨r1, r2, r3, g0, g1, g2, g3, g6, g7, g8, s7, s8, s9, hE, hF, hN⟩ := hR
  have e3 : (10 + (5 * nI i)) + 3 = nI (10 + 5 * i + 3) := x7i (w := 3)
  have e4 : (10 + (5 * nI i)) + 4 = nI (10 + 5 * i + 4) := x7i (w := 4)
  unfold f_X7_beginsElement at h
  rw [e3, e4] at h
  obtain ⟨-, h⟩ := og h
  obtain ⟨-, h⟩ := og h
  rw [cl_n (by omega), cl_n (by omega), pk_un (show 0 ≠ 10 + 5 * i + 3 by omega)] at h
  obtain ⟨s1, hs1⟩ : ∃ s1 : FF, s1 = upd (upd u.1 (10 + 5 * i + 3) 1) (10 + 5 * i + 4) (u.1 0) := ⟨_, rfl⟩
  rw [← hs1] at h
  obtain ⟨w, hw, h⟩ := ob h
  have hw' : pL s1 i = w := Option.some.inj ((x7of0 (u := (s1, u.2)) (i := i) (by omega)).symm.trans hw)
  obtain ⟨w', hg, h⟩ := ob h
  obtain rfl : w' = r := Option.some.inj h
  have a1 : ∀ j : Nat, j ≠ 10 + 5 * i + 3 → j ≠ 10 + 5 * i + 4 → s1 j = u.1 j := fun j q1 q2 => by rw [hs1, pk_un q2, pk_un q1]
  have hL : w = pL u.1 i := by rw [← hw']; exact a1 _ (by omega) (by omega)
  have hRB : RB g (upd (upd e (5 * i + 3) 1) (5 * i + 4) (g 2)) f l s1 n m k := by
    have hE1 : EL (upd e (5 * i + 3) 1) (upd u.1 (10 + 5 * i + 3) 1) n := EL_up hE hi (by omega) pk_us (fun a b c d e => pk_un (by omega))
    refine ⟨r1, r2, r3, g0, g1, by rw [a1 0 (by omega) (by omega)]; exact g2, by rw [a1 1 (by omega) (by omega)]; exact g3, by rw [a1 5 (by omega) (by omega)]; exact g6, by rw [a1 6 (by omega) (by omega)]; exact g7, g8, by rw [a1 7 (by omega) (by omega)]; exact s7, by rw [a1 8 (by omega) (by omega)]; exact s8, by rw [a1 9 (by omega) (by omega)]; exact s9, EL_up hE1 hi (by omega) (by rw [hs1, pk_us, g2]) (fun a b c d e => by rw [hs1, pk_un (by omega)]), FL_cg hF (fun a b c d => a1 _ (by omega) (by omega)), NL_cg hN (fun a b c d => a1 _ (by omega) (by omega))⟩
  obtain ⟨l', q1, -, q3, v2, v3, v4, vj⟩ := Lgo (u := (s1, u.2)) (A := 1 + nI i) hRB hg (Or.inl ⟨rfl, i, hi, rfl, by rw [show (1 : Int32) = nI 1 from rfl, nI_add]⟩)
  refine ⟨_, _, l', ?_, q3, fun a ha _ h3 => ?_, fun a ha => ?_⟩
  rotate_left
  rotate_left
  · have := vj (10 + 5 * a + 4) (by omega) (by omega)
    unfold pB
    rw [this]
    show s1 (10 + 5 * a + 4) = u.1 (10 + 5 * a + 4) ∨ s1 (10 + 5 * a + 4) = u.1 0
    by_cases hai : a = i
    · subst hai
      exact Or.inr (by rw [hs1, pk_us])
    · exact Or.inl (a1 _ (by omega) (by omega))
  rotate_left
  · obtain rfl : i = a := by
      rw [v3, nI_eq (by omega) (by omega)] at h3
      exact h3
    have b1 : pB w'.1 i = u.1 0 := by
      have := vj (10 + 5 * i + 4) (by omega) (by omega)
      unfold pB
      rw [this, hs1]
      exact pk_us
    have b2 : pL w'.1 i = w := by
      have := vj (10 + 5 * i) (by omega) (by omega)
      unfold pL
      rw [this]
      exact hw'
    have b3 : pS w'.1 i = 1 := by
      have := vj (10 + 5 * i + 3) (by omega) (by omega)
      unfold pS
      rw [this]
      show s1 (10 + 5 * i + 3) = 1
      rw [hs1, pk_un (by omega), pk_us]
    refine ⟨b3, ?_⟩
    rw [b1, b2, v4]
    show s1 0 + w = u.1 0 + w
    rw [a1 0 (by omega) (by omega)]
  unfold f_L_begins
  rw [l54, l53, l50, if_pos (zin_n (by omega) (by omega)), if_pos (zin_n (by omega) (by omega)), if_pos (zin_n (by omega) (by omega)), cl_n (by omega), cl_n (by omega), cl_n (by omega), pk_un (show 5 * i ≠ 5 * i + 4 by omega), pk_un (show 5 * i ≠ 5 * i + 3 by omega), EL0 hE hi, ← hL]
  have q1' : f_L_notes (upd (upd g 4 (1 + nI i)) 5 w) l 0 (nI i) = _ := q1
  rw [q1', Option.bind_some]
/-- a filler begins -/
theorem Lfi {g e f l : FF} {u r : MV} {n m k i : Nat} (hR : RB g e f l u.1 n m k) (hi : i < m) (h : f_X7_beginsFiller u (nI i) = some r) : ∃ g' l' : FF, f_L_notes (upd (upd g 4 (21 + nI i)) 5 ((upd (upd f (3 * i + 1) 1) (3 * i + 2) (g 2)) (3 * i))) l 1 (nI i) = some (g', l') ∧ RW g' e (upd (upd f (3 * i + 1) 1) (3 * i + 2) (g 2)) l' r.1 n m (k + 1) ∧ r.1 2 = 2 ∧ ∀ a : Nat, a < n → pB r.1 a = pB u.1 a := by
  obtain ⟨r1, r2, r3, g0, g1, g2, g3, g6, g7, g8, s7, s8, s9, hE, hF, hN⟩ := hR
  have e3 : (70 + (3 * nI i)) + 1 = nI (70 + 3 * i + 1) := x7j (w := 1)
  have e4 : (70 + (3 * nI i)) + 2 = nI (70 + 3 * i + 2) := x7j (w := 2)
  unfold f_X7_beginsFiller at h
  rw [e3, e4] at h
  obtain ⟨-, h⟩ := og h
  obtain ⟨-, h⟩ := og h
  rw [cl_n (by omega), cl_n (by omega), pk_un (show 0 ≠ 70 + 3 * i + 1 by omega)] at h
  obtain ⟨s1, hs1⟩ : ∃ s1 : FF, s1 = upd (upd u.1 (70 + 3 * i + 1) 1) (70 + 3 * i + 2) (u.1 0) := ⟨_, rfl⟩
  rw [← hs1] at h
  obtain ⟨w, hw, h⟩ := ob h
  have hw' : pfL s1 i = w := Option.some.inj ((x7f0 (u := (s1, u.2)) (i := i) (by omega)).symm.trans hw)
  obtain ⟨w', hg, h⟩ := ob h
  obtain rfl : w' = r := Option.some.inj h
  have a1 : ∀ j : Nat, j ≠ 70 + 3 * i + 1 → j ≠ 70 + 3 * i + 2 → s1 j = u.1 j := fun j q1 q2 => by rw [hs1, pk_un q2, pk_un q1]
  have hL : w = pfL u.1 i := by rw [← hw']; exact a1 _ (by omega) (by omega)
  have hRB : RB g e (upd (upd f (3 * i + 1) 1) (3 * i + 2) (g 2)) l s1 n m k := by
    have hF1 : FL (upd f (3 * i + 1) 1) (upd u.1 (70 + 3 * i + 1) 1) m := FL_up hF hi (by omega) pk_us (fun a b c d e => pk_un (by omega))
    refine ⟨r1, r2, r3, g0, g1, by rw [a1 0 (by omega) (by omega)]; exact g2, by rw [a1 1 (by omega) (by omega)]; exact g3, by rw [a1 5 (by omega) (by omega)]; exact g6, by rw [a1 6 (by omega) (by omega)]; exact g7, g8, by rw [a1 7 (by omega) (by omega)]; exact s7, by rw [a1 8 (by omega) (by omega)]; exact s8, by rw [a1 9 (by omega) (by omega)]; exact s9, EL_cg hE (fun a b c d => a1 _ (by omega) (by omega)), FL_up hF1 hi (by omega) (by rw [hs1, pk_us, g2]) (fun a b c d e => by rw [hs1, pk_un (by omega)]), NL_cg hN (fun a b c d => a1 _ (by omega) (by omega))⟩
  obtain ⟨l', q1, -, q3, v2, -, -, vj⟩ := Lgo (u := (s1, u.2)) (A := 21 + nI i) hRB hg (Or.inr (Or.inl ⟨rfl, i, hi, rfl, by rw [show (21 : Int32) = nI 21 from rfl, nI_add]⟩))
  refine ⟨_, l', ?_, q3, v2, fun a ha => (vj _ (by omega) (by omega)).trans (a1 _ (by omega) (by omega))⟩
  rw [pk_un (show 3 * i ≠ 3 * i + 2 by omega), pk_un (show 3 * i ≠ 3 * i + 1 by omega), FL0 hF hi, ← hL]
  exact q1
