/-! The law's arrays beside the row: entries, what is let go. -/
theorem lowL {g e f l s : FF} {n : Nat} {t : Int32} (hn : n ≤ 6) (he : EL e s n) {j : Nat} (hj : j ≤ n) : ∃ b x : Int32, zloop (s_L_next_50 g e f l (nI j) t) 10000 (-1, nI j - 1) = some (b, x) ∧ LOW s 0 j b := by
  have hm1 : ∀ a : Nat, nI (a + 1) - 1 = nI a := fun a => pk_sub (a := a + 1) (b := 1) (by omega)
  have hm2 : ∀ a : Nat, nI a + (-1) = nI a - 1 := fun a => by rw [Int32.sub_eq_add_neg]
  obtain ⟨r, h1, h2⟩ := zl1 (f := s_L_next_50 g e f l (nI j) t)
    (fun k x => ∃ b : Int32, x = (b, nI k - 1) ∧ k ≤ j ∧ LOW s k j b)
    (fun r => LOW s 0 j r.1)
    (by
      rintro k x ⟨b, rfl, hk, hL⟩
      cases k with
      | zero =>
        refine Or.inl ⟨(b, nI 0 - 1), ?_, hL⟩
        unfold s_L_next_50
        dsimp only
        rw [if_pos (by decide)]
      | succ a =>
        rw [hm1]
        have hpre : ∀ b' : Int32, LOW s a j b' → s_L_next_50 g e f l (nI j) t (b, nI a) = some (.inl (b', nI a + (-1))) → (∃ r, s_L_next_50 g e f l (nI j) t (b, nI a) = some (.inr r) ∧ LOW s 0 j r.1) ∨ ∃ k' x', s_L_next_50 g e f l (nI j) t (b, nI a) = some (.inl x') ∧ k' < a + 1 ∧ ∃ b : Int32, x' = (b, nI k' - 1) ∧ k' ≤ j ∧ LOW s k' j b := fun b' q1 q2 => Or.inr ⟨a, (b', nI a + (-1)), q2, by omega, b', by rw [hm2], by omega, q1⟩
        have hns : pS s a ≠ 0 → LOW s a j b := fun hs => by
          rcases hL with ⟨q1, q2⟩ | ⟨c, q1, q2, q3, q4, q5, q6⟩
          · refine Or.inl ⟨q1, fun i i1 i2 i3 => ?_⟩
            by_cases hia : i = a
            · subst hia; exact absurd i3 hs
            · exact q2 i (by omega) i2 i3
          · refine Or.inr ⟨c, by omega, q2, q3, q4, q5, fun i i1 i2 i3 => ?_⟩
            by_cases hia : i = a
            · subst hia; exact absurd i3 hs
            · exact q6 i (by omega) i2 i3
        have hneg : ¬ nI a < 0 := of_eq_false (neg_n (by omega))
        by_cases hs : pS s a = 0
        · rcases hL with ⟨q1, q2⟩ | ⟨c, q1, q2, q3, q4, q5, q6⟩
          · subst q1
            have hst : s_L_next_50 g e f l (nI j) t (-1, nI a) = if 9 ≤ pK s a then some (.inl (-1, nI a + (-1))) else some (.inl (nI a, nI a + (-1))) := by
              unfold s_L_next_50
              dsimp only
              rw [if_neg hneg, l53, l52, if_pos (zin_n (by omega) (by omega)), if_pos (zin_n (by omega) (by omega)), cl_n (by omega), cl_n (by omega), EL3 he (by omega), EL2 he (by omega), if_pos hs, if_neg (by decide)]
            by_cases hk9 : 9 ≤ pK s a
            · refine hpre (-1) ?_ (by rw [hst, if_pos hk9])
              rw [Int32.le_iff_toInt_le, show (9 : Int32).toInt = 9 from rfl] at hk9
              refine Or.inl ⟨rfl, fun i i1 i2 i3 => ?_⟩
              by_cases hia : i = a
              · subst hia; omega
              · exact q2 i (by omega) i2 i3
            · refine hpre (nI a) ?_ (by rw [hst, if_neg hk9])
              rw [Int32.le_iff_toInt_le, show (9 : Int32).toInt = 9 from rfl] at hk9
              refine Or.inr ⟨a, Nat.le_refl _, by omega, rfl, hs, by omega, fun i i1 i2 i3 => ?_⟩
              by_cases hia : i = a
              · subst hia; omega
              · have := q2 i (by omega) i2 i3
                omega
          · subst q3
            have hst : s_L_next_50 g e f l (nI j) t (nI c, nI a) = if pK s c ≤ pK s a then some (.inl (nI c, nI a + (-1))) else some (.inl (nI a, nI a + (-1))) := by
              unfold s_L_next_50
              dsimp only
              rw [if_neg hneg, l53, l52, l52, if_pos (zin_n (by omega) (by omega)), if_pos (zin_n (by omega) (by omega)), if_pos (zin_n (by omega) (by omega)), cl_n (by omega), cl_n (by omega), cl_n (by omega), EL3 (i := a) he (by omega), EL2 (i := a) he (by omega), EL2 (i := c) he (by omega), if_pos hs, if_pos (of_eq_true (pos_n (by omega)))]
            by_cases hk9 : pK s c ≤ pK s a
            · refine hpre (nI c) ?_ (by rw [hst, if_pos hk9])
              rw [Int32.le_iff_toInt_le] at hk9
              refine Or.inr ⟨c, by omega, q2, rfl, q4, q5, fun i i1 i2 i3 => ?_⟩
              by_cases hia : i = a
              · subst hia; omega
              · exact q6 i (by omega) i2 i3
            · refine hpre (nI a) ?_ (by rw [hst, if_neg hk9])
              rw [Int32.le_iff_toInt_le] at hk9
              refine Or.inr ⟨a, Nat.le_refl _, by omega, rfl, hs, by omega, fun i i1 i2 i3 => ?_⟩
              by_cases hia : i = a
              · subst hia; omega
              · have := q6 i (by omega) i2 i3
                omega
        · refine hpre b (hns hs) ?_
          unfold s_L_next_50
          dsimp only
          rw [if_neg hneg, l53, if_pos (zin_n (by omega) (by omega)), cl_n (by omega), EL3 he (by omega), if_neg hs])
    10000 j (-1, nI j - 1) (by omega) ⟨-1, rfl, Nat.le_refl _, Or.inl ⟨rfl, fun a h1 h2 => by omega⟩⟩
  exact ⟨r.1, r.2, h1, h2⟩
/-- an entry, in the row and in the law's array -/
theorem lg7 {u r : MV} {k : Nat} {p q : Int32} (h9 : u.1 9 = nI k) (hk : k ≤ 40) (h : f_X7_logs u p q = some r) : k < 40 ∧ r.2 = u.2 ∧ r.1 (100 + 3 * k) = u.1 0 ∧ r.1 (100 + 3 * k + 1) = p ∧ r.1 (100 + 3 * k + 2) = q ∧ r.1 9 = nI (k + 1) ∧ ∀ j : Nat, j ≠ 9 → (j < 100 + 3 * k ∨ 100 + 3 * k + 3 ≤ j) → r.1 j = u.1 j := by
  have i0 : (100 : Int32) + (3 * nI k) = nI (100 + 3 * k) := by
    rw [show (100 : Int32) = nI 100 from rfl, show (3 : Int32) = nI 3 from rfl, pk_mul, nI_add]
  have i1 : (100 : Int32) + (3 * nI k) + 1 = nI (100 + 3 * k + 1) := by rw [i0, nI_1]
  have i2 : (100 : Int32) + (3 * nI k) + 2 = nI (100 + 3 * k + 2) := by rw [i0, show (2 : Int32) = nI 2 from rfl, nI_add]
  unfold f_X7_logs at h
  rw [h9, i2, i1, i0] at h
  obtain ⟨z0, h⟩ := og h
  obtain ⟨z1, h⟩ := og h
  obtain ⟨z2, h⟩ := og h
  have hk40 := zin_i z0 (by omega)
  rw [cl_n (by omega), cl_n (by omega), cl_n (by omega), pk_un (show 9 ≠ 100 + 3 * k + 2 by omega), pk_un (show 9 ≠ 100 + 3 * k + 1 by omega), pk_un (show 9 ≠ 100 + 3 * k by omega), h9, nI_1] at h
  have hr := (Option.some.inj h).symm
  subst hr
  refine ⟨by omega, rfl, ?_, ?_, ?_, ?_, fun j j9 hj => ?_⟩ <;> dsimp only
  · rw [pk_un (by omega), pk_un (by omega), pk_un (by omega), pk_us]
  · rw [pk_un (by omega), pk_un (by omega), pk_us]
  · rw [pk_un (by omega), pk_us]
  · rw [pk_us]
  · rw [pk_un j9, pk_un (by omega), pk_un (by omega), pk_un (by omega)]
theorem Lno {g l s : FF} {k : Nat} (hk : k < 1000) (g8 : g 8 = nI k) (g2 : g 2 = s 0) (hl : NL l s k) (p q : Int32) : ∃ l' : FF, f_L_notes g l p q = some (upd g 8 (nI (k + 1)), l') ∧ ∀ s' : FF, s' (100 + 3 * k) = s 0 → s' (100 + 3 * k + 1) = p → s' (100 + 3 * k + 2) = q → (∀ j : Nat, 100 ≤ j → j < 100 + 3 * k → s' j = s j) → NL l' s' (k + 1) := by
  by_cases h21 : 21 ≤ k
  · refine ⟨l, ?_, fun s' _ _ _ h4 i w hi hi2 hw => ?_⟩
    · unfold f_L_notes
      rw [g8, if_pos (show (21 : Int32) ≤ nI k from (nI_leI (a := 21) (by omega) (by omega)).mpr h21), nI_1]
    · rw [h4 _ (by omega) (by omega)]
      exact hl i w (by omega) hi2 hw
  · refine ⟨upd (upd (upd l (3 * k) (g 2)) (3 * k + 1) p) (3 * k + 2) q, ?_, fun s' h1 h2 h3 h4 i w hi hi2 hw => ?_⟩
    · unfold f_L_notes
      rw [g8, if_neg (show ¬ (21 : Int32) ≤ nI k from fun q => h21 ((nI_leI (a := 21) (by omega) (by omega)).mp q)), l31, l32, l30, if_pos (zin_n (by omega) (by omega)), if_pos (zin_n (by omega) (by omega)), if_pos (zin_n (by omega) (by omega)), cl_n (by omega), cl_n (by omega), cl_n (by omega), nI_1]
    · by_cases hik : i = k
      · subst hik
        rcases (by omega : w = 0 ∨ w = 1 ∨ w = 2) with rfl | rfl | rfl
        · rw [pk_un (by omega), pk_un (by omega), Nat.add_zero, Nat.add_zero, pk_us, g2, h1]
        · rw [pk_un (by omega), pk_us, h2]
        · rw [pk_us, h3]
      · rw [pk_un (by omega), pk_un (by omega), pk_un (by omega), h4 _ (by omega) (by omega)]
        exact hl i w (by omega) hi2 hw
/-- what is on the air, in the law's numbers and in the row -/
def AIR (g s : FF) (n m : Nat) : Prop := (s 2 = 0 ∧ g 4 = 0 ∧ g 5 = 0) ∨ (s 2 = 1 ∧ (∃ a : Nat, a < n ∧ s 3 = nI a ∧ g 4 = nI (1 + a)) ∧ g 5 = s 4 - s 0) ∨ (s 2 = 2 ∧ (∃ a : Nat, a < m ∧ s 3 = nI a ∧ g 4 = nI (21 + a)) ∧ g 5 = s 4 - s 0) ∨ (s 2 = 3 ∧ g 4 = nI 40 ∧ g 5 = s 4 - s 0)
/-- the law's arrays and the row -/
def RB (g e f l s : FF) (n m k : Nat) : Prop := n ≤ 6 ∧ m ≤ 5 ∧ k ≤ 40 ∧ g 0 = nI n ∧ g 1 = nI m ∧ g 2 = s 0 ∧ g 3 = s 1 ∧ g 6 = s 5 ∧ g 7 = s 6 ∧ g 8 = nI k ∧ s 7 = nI n ∧ s 8 = nI m ∧ s 9 = nI k ∧ EL e s n ∧ FL f s m ∧ NL l s k
def RW (g e f l s : FF) (n m k : Nat) : Prop := RB g e f l s n m k ∧ AIR g s n m
theorem AIR_cg {g g' s s' : FF} {n m : Nat} (h : AIR g s n m) (g4 : g' 4 = g 4) (g5 : g' 5 = g 5) (s0 : s' 0 = s 0) (s2 : s' 2 = s 2) (s3 : s' 3 = s 3) (s4 : s' 4 = s 4) : AIR g' s' n m := by
  unfold AIR at *
  rw [g4, g5, s0, s2, s3, s4]
  exact h
theorem EL_cg {e s s' : FF} {n : Nat} (h : EL e s n) (hs : ∀ i w : Nat, i < n → w < 5 → s' (10 + 5 * i + w) = s (10 + 5 * i + w)) : EL e s' n := fun i w hi hw => (h i w hi hw).trans (hs i w hi hw).symm
theorem FL_cg {f s s' : FF} {m : Nat} (h : FL f s m) (hs : ∀ i w : Nat, i < m → w < 3 → s' (70 + 3 * i + w) = s (70 + 3 * i + w)) : FL f s' m := fun i w hi hw => (h i w hi hw).trans (hs i w hi hw).symm
theorem NL_cg {l s s' : FF} {k : Nat} (h : NL l s k) (hs : ∀ i w : Nat, i < k → w < 3 → s' (100 + 3 * i + w) = s (100 + 3 * i + w)) : NL l s' k := fun i w hi h2 hw => (h i w hi h2 hw).trans (hs i w hi hw).symm
theorem EL_up {e s s' : FF} {n i0 w0 : Nat} {x : Int32} (h : EL e s n) (hi : i0 < n) (hw : w0 < 5) (hx : s' (10 + 5 * i0 + w0) = x) (hs : ∀ i w : Nat, i < n → w < 5 → ¬ (i = i0 ∧ w = w0) → s' (10 + 5 * i + w) = s (10 + 5 * i + w)) : EL (upd e (5 * i0 + w0) x) s' n := fun i w hi hw => by
  by_cases hq : i = i0 ∧ w = w0
  · obtain ⟨rfl, rfl⟩ := hq
    rw [pk_us, hx]
  · rw [pk_un (by omega), hs i w hi hw hq]
    exact h i w hi hw
theorem FL_up {f s s' : FF} {m i0 w0 : Nat} {x : Int32} (h : FL f s m) (hi : i0 < m) (hw : w0 < 3) (hx : s' (70 + 3 * i0 + w0) = x) (hs : ∀ i w : Nat, i < m → w < 3 → ¬ (i = i0 ∧ w = w0) → s' (70 + 3 * i + w) = s (70 + 3 * i + w)) : FL (upd f (3 * i0 + w0) x) s' m := fun i w hi hw => by
  by_cases hq : i = i0 ∧ w = w0
  · obtain ⟨rfl, rfl⟩ := hq
    rw [pk_us, hx]
  · rw [pk_un (by omega), hs i w hi hw hq]
    exact h i w hi hw
/-- an element is let go -/
theorem Lle {g e f l : FF} {u r : MV} {n m k a : Nat} (hR : RW g e f l u.1 n m k) (ha : a < n) (h : f_X7_lets u (nI a) = some r) : ∃ l' : FF, f_L_notes g l 3 (nI a) = some (upd g 8 (nI (k + 1)), l') ∧ r.2 = u.2 ∧ RW (upd g 8 (nI (k + 1))) (upd e (5 * a + 3) 3) f l' r.1 n m (k + 1) := by
  obtain ⟨⟨r1, r2, r3, g0, g1, g2, g3, g6, g7, g8, s7, s8, s9, hE, hF, hN⟩, hA⟩ := hR
  have e3 : (10 + (5 * nI a)) + 3 = nI (10 + 5 * a + 3) := x7i (w := 3)
  unfold f_X7_lets at h
  rw [e3] at h
  obtain ⟨-, h⟩ := og h
  rw [cl_n (by omega)] at h
  obtain ⟨w, hw, h⟩ := ob h
  obtain rfl : w = r := Option.some.inj h
  obtain ⟨k40, w2, w0, w1, w3, w9, wr⟩ := lg7 (u := (upd u.1 (10 + 5 * a + 3) 3, u.2)) (by show upd u.1 (10 + 5 * a + 3) 3 9 = nI k; rw [pk_un (by omega)]; exact s9) r3 hw
  have wr' : ∀ j : Nat, j ≠ 9 → j ≠ 10 + 5 * a + 3 → (j < 100 + 3 * k ∨ 100 + 3 * k + 3 ≤ j) → w.1 j = u.1 j := fun j j1 j2 j3 => by
    rw [wr j j1 j3]
    exact pk_un j2
  have w0' : w.1 (100 + 3 * k) = u.1 0 := w0.trans (show upd u.1 (10 + 5 * a + 3) 3 0 = u.1 0 from pk_un (by omega))
  obtain ⟨l', q1, q2⟩ := Lno (s := u.1) (by omega) g8 g2 hN 3 (nI a)
  have y : ∀ j : Nat, j < 10 → j ≠ 9 → w.1 j = u.1 j := fun j j1 j2 => wr' j j2 (by omega) (by omega)
  refine ⟨l', q1, w2, ⟨r1, r2, by omega, ?_, ?_, ?_, ?_, ?_, ?_, pk_us, ?_, ?_, w9, EL_up hE ha (by omega) ?_ (fun i w hi hw hq => wr' _ (by omega) (by omega) (by omega)), FL_cg hF (fun i w hi hw => wr' _ (by omega) (by omega) (by omega)), q2 w.1 w0' w1 w3 (fun j j1 j2 => wr' j (by omega) (by omega) (by omega))⟩, AIR_cg hA (pk_un (by omega)) (pk_un (by omega)) (y 0 (by omega) (by omega)) (y 2 (by omega) (by omega)) (y 3 (by omega) (by omega)) (y 4 (by omega) (by omega))⟩
  · rw [pk_un (by omega)]; exact g0
  · rw [pk_un (by omega)]; exact g1
  · rw [pk_un (by omega), y 0 (by omega) (by omega)]; exact g2
  · rw [pk_un (by omega), y 1 (by omega) (by omega)]; exact g3
  · rw [pk_un (by omega), y 5 (by omega) (by omega)]; exact g6
  · rw [pk_un (by omega), y 6 (by omega) (by omega)]; exact g7
  · rw [y 7 (by omega) (by omega)]; exact s7
  · rw [y 8 (by omega) (by omega)]; exact s8
  · rw [wr _ (by omega) (by omega)]; exact pk_us
/-- the loop of what is let go for time -/
theorem Ldr {G0 G1 G3 f : FF} {u0 : MV} {n m j : Nat} {t : Int32} (hj : j ≤ n) : ∀ (N : Nat) (b : Int32) (u : MV) (b' : Int32) (u' : MV), zloop (s_X7_finds_18 u0 (nI j) t) N (b, u) = some (b', u') → ∀ (g e l : FF) (k : Nat), RW g e f l u.1 n m k → LOW u.1 0 j b → ∃ (x : Int32) (g' e' l' : FF) (k' : Nat), zloop (s_L_next_20 G0 G1 f G3 (nI j) t) (N + 1) (1, g, e, l) = some (x, g', e', l') ∧ RW g' e' f l' u'.1 n m k' := by
  intro N
  induction N with
  | zero => intro b u b' u' h; exact absurd h (by simp [zloop])
  | succ N ih =>
    intro b u b' u' h g e l k hR hb
    have hR' := hR
    obtain ⟨⟨r1, r2, r3, g0, g1, g2, g3, g6, g7, g8, s7, s8, s9, hE, hF, hN⟩, hA⟩ := hR
    have hS := Lsm r1 hE (Nat.zero_le j) hj
    have hS' : f_L_sum e 0 (nI j) = some (pSum (pS u.1) (pL u.1) j 0 0) := hS
    have hX := wl7 (u := u) (j := j) (by omega)
    obtain ⟨b2, x2, hl1, hl2⟩ := lowL (g := g) (f := f) (l := l) (t := t) r1 hE hj
    obtain rfl : b2 = b := LOW_u hl2 hb
    have hst : s_L_next_20 G0 G1 f G3 (nI j) t (1, g, e, l) = if (g 2) + pSum (pS u.1) (pL u.1) j 0 0 ≤ t then some (.inr (1, g, e, l)) else if b2 < 0 then some (.inl (0, g, e, l)) else if zin ((5 * b2) + 3) 30 = true then (f_L_notes g l 3 b2).bind (fun u17 => some (.inl (1, u17.1, (upd e (((5 * b2) + 3).toNatClampNeg) 3), u17.2))) else none := by
      unfold s_L_next_20
      dsimp only
      rw [if_neg (by decide), hS', Option.bind_some, hl1, Option.bind_some]
    have hstop : ∀ M : Nat, zloop (s_L_next_20 G0 G1 f G3 (nI j) t) (M + 1) (0, g, e, l) = some (0, g, e, l) := fun M => zl_r (by
      unfold s_L_next_20
      dsimp only
      rw [if_pos rfl]) M
    have hxst : s_X7_finds_18 u0 (nI j) t (b2, u) = if b2 = (-1) then some (.inr (b2, u)) else (f_X7_sectionLength u (nI j)).bind (fun u5 => if ((u.1 0) + u5) ≤ t then some (.inr (b2, u)) else (f_X7_lets u b2).bind (fun u7 => (f_X7_lowest u7 (nI j)).bind (fun u8 => some (.inl (u8, u7))))) := rfl
    rw [zloop, hxst] at h
    by_cases hfit : (u.1 0) + pSum (pS u.1) (pL u.1) j 0 0 ≤ t
    · -- nothing is let go
      have hu : u' = u := by
        by_cases hb1 : b2 = -1
        · rw [if_pos hb1, Option.bind_some] at h
          exact (congrArg Prod.snd (Option.some.inj h)).symm
        · rw [if_neg hb1, hX, Option.bind_some, if_pos hfit, Option.bind_some] at h
          exact (congrArg Prod.snd (Option.some.inj h)).symm
      subst hu
      exact ⟨1, g, e, l, k, zl_r (by rw [hst, if_pos (by rw [g2]; exact hfit)]) _, hR'⟩
    · rw [← g2] at hfit
      by_cases hb1 : b2 = -1
      · rw [if_pos hb1, Option.bind_some] at h
        obtain rfl : u = u' := congrArg Prod.snd (Option.some.inj h)
        refine ⟨0, g, e, l, k, ?_, hR'⟩
        rw [zl_l (by rw [hst, if_neg hfit, if_pos (by rw [hb1]; decide)])]
        exact hstop N
      · rw [if_neg hb1, hX, Option.bind_some, if_neg (by rw [← g2]; exact hfit)] at h
        rcases hb with ⟨q, -⟩ | ⟨a, -, a2, rfl, a4, -⟩
        · exact absurd q hb1
        obtain ⟨y, hy, h⟩ := ob h
        obtain ⟨u7, h7, hy⟩ := ob hy
        obtain ⟨u8, h8, hy⟩ := ob hy
        obtain rfl := Option.some.inj hy
        obtain ⟨l', q1, q2, q3⟩ := Lle hR' (show a < n by omega) h7
        obtain ⟨x, g', e', l'', k', w1, w2⟩ := ih u8 u7 b' u' h _ _ l' (k + 1) q3 (lowX (by omega) h8)
        refine ⟨x, g', e', l'', k', ?_, w2⟩
        rw [zl_l (by rw [hst, if_neg hfit, if_neg (of_eq_false (neg_n (by omega))), l53, if_pos (zin_n (by omega) (by omega)), q1, Option.bind_some, cl_n (by omega)])]
        exact w1
