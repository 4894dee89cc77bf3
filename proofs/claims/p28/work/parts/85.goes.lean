/-! The law's time is the row's. -/
theorem add_subc (a b : Int32) : a + b - a = b := by rw [Int32.add_comm, Int32.add_sub_cancel]
/-- what is on the air ends -/
theorem Ldo {g e f l : FF} {u r : MV} {n m k : Nat} (hR : RW g e f l u.1 n m k) (hair : u.1 2 ≠ 0) (h : f_X7_endsOnAir u = some r) : ∃ e' f' : FF, f_L_done g e f = some (upd (upd g 4 0) 5 0, e', f') ∧ RW (upd (upd g 4 0) 5 0) e' f' l r.1 n m k ∧ r.1 2 = 0 ∧ ∀ a : Nat, a < n → pB r.1 a = pB u.1 a := by
  obtain ⟨⟨r1, r2, r3, g0, g1, g2, g3, g6, g7, g8, s7, s8, s9, hE, hF, hN⟩, hA⟩ := hR
  have gg : ∀ j : Nat, j ≠ 4 → j ≠ 5 → upd (upd g 4 0) 5 0 j = g j := fun j j4 j5 => by rw [pk_un j5, pk_un j4]
  have key : ∀ (s1 e' f' : FF), r = (upd (upd (upd s1 2 0) 3 0) 4 0, u.2) → (∀ j : Nat, j < 10 → s1 j = u.1 j) → (∀ a : Nat, a < n → pB s1 a = pB u.1 a) → EL e' s1 n → FL f' s1 m → NL l s1 k → RW (upd (upd g 4 0) 5 0) e' f' l r.1 n m k ∧ r.1 2 = 0 ∧ ∀ a : Nat, a < n → pB r.1 a = pB u.1 a := fun s1 e' f' hr hs hB h1 h2 h3 => by
    subst hr
    have y : ∀ j : Nat, j ≠ 2 → j ≠ 3 → j ≠ 4 → upd (upd (upd s1 2 0) 3 0) 4 0 j = s1 j := fun j j2 j3 j4 => by rw [pk_un j4, pk_un j3, pk_un j2]
    have z : ∀ j : Nat, j < 10 → j ≠ 2 → j ≠ 3 → j ≠ 4 → upd (upd (upd s1 2 0) 3 0) 4 0 j = u.1 j := fun j j1 j2 j3 j4 => (y j j2 j3 j4).trans (hs j j1)
    exact ⟨⟨⟨r1, r2, r3, (gg 0 (by omega) (by omega)).trans g0, (gg 1 (by omega) (by omega)).trans g1, ((gg 2 (by omega) (by omega)).trans g2).trans (z 0 (by omega) (by omega) (by omega) (by omega)).symm, ((gg 3 (by omega) (by omega)).trans g3).trans (z 1 (by omega) (by omega) (by omega) (by omega)).symm, ((gg 6 (by omega) (by omega)).trans g6).trans (z 5 (by omega) (by omega) (by omega) (by omega)).symm, ((gg 7 (by omega) (by omega)).trans g7).trans (z 6 (by omega) (by omega) (by omega) (by omega)).symm, (gg 8 (by omega) (by omega)).trans g8, (z 7 (by omega) (by omega) (by omega) (by omega)).trans s7, (z 8 (by omega) (by omega) (by omega) (by omega)).trans s8, (z 9 (by omega) (by omega) (by omega) (by omega)).trans s9, EL_cg h1 (fun i w hi hw => y _ (by omega) (by omega) (by omega)), FL_cg h2 (fun i w hi hw => y _ (by omega) (by omega) (by omega)), NL_cg h3 (fun i w hi hw => y _ (by omega) (by omega) (by omega))⟩, Or.inl ⟨by show upd (upd (upd s1 2 0) 3 0) 4 0 2 = 0; rw [pk_un (by omega), pk_un (by omega), pk_us], by rw [pk_un (by omega), pk_us], pk_us⟩⟩, by show upd (upd (upd s1 2 0) 3 0) 4 0 2 = 0; rw [pk_un (by omega), pk_un (by omega), pk_us], fun a ha => (y (10 + 5 * a + 4) (by omega) (by omega) (by omega)).trans (hB a ha)⟩
  have h0 : ∀ x : Nat, x < 100000 → 1 ≤ x → ¬ nI x ≤ 0 := fun x hx h1 => by
    show ¬ nI x ≤ nI 0
    rw [nI_leI (by omega) (by omega)]; omega
  rcases hA with ⟨q, -⟩ | ⟨q, ⟨a, a1, a2, a3⟩, -⟩ | ⟨q, ⟨a, a1, a2, a3⟩, -⟩ | ⟨q, a3, -⟩
  · exact absurd q hair
  · have hx : f_X7_endsOnAir u = some (upd (upd (upd (upd u.1 (10 + 5 * a + 3) 2) 2 0) 3 0) 4 0, u.2) := by
      have e3 : (10 + (5 * nI a)) + 3 = nI (10 + 5 * a + 3) := x7i (w := 3)
      unfold f_X7_endsOnAir
      rw [if_pos q, a2, e3, if_pos (zin_n (by omega) (by omega)), cl_n (by omega), pk_un (show 2 ≠ 10 + 5 * a + 3 by omega), q, if_neg (by decide)]
    have hL : f_L_done g e f = some (upd (upd g 4 0) 5 0, upd e (5 * a + 3) 2, f) := by
      have e5 : 5 * nI (1 + a) - 2 = nI (5 * a + 3) := by rw [show (5 : Int32) = nI 5 from rfl, pk_mul, show (2 : Int32) = nI 2 from rfl, pk_sub (by omega), show 5 * (1 + a) - 2 = 5 * a + 3 by omega]
      unfold f_L_done
      rw [a3, if_neg (h0 _ (by omega) (by omega)), if_neg (show ¬ (21 : Int32) ≤ nI (1 + a) from fun z => by have := (nI_leI (a := 21) (by omega) (by omega)).mp z; omega), e5, if_pos (zin_n (by omega) (by omega)), cl_n (by omega)]
    rw [hx] at h
    refine ⟨_, _, hL, key (upd u.1 (10 + 5 * a + 3) 2) _ _ (Option.some.inj h).symm (fun j hj => pk_un (by omega)) (fun b hb => pk_un (by omega)) (EL_up hE a1 (by omega) pk_us (fun i w hi hw hq => pk_un (by omega))) (FL_cg hF (fun i w hi hw => pk_un (by omega))) (NL_cg hN (fun i w hi hw => pk_un (by omega)))⟩
  · have hx : f_X7_endsOnAir u = some (upd (upd (upd (upd u.1 (70 + 3 * a + 1) 2) 2 0) 3 0) 4 0, u.2) := by
      have e3 : (70 + (3 * nI a)) + 1 = nI (70 + 3 * a + 1) := x7j (w := 1)
      unfold f_X7_endsOnAir
      rw [if_neg (by rw [q]; decide), if_pos q, a2, e3, if_pos (zin_n (by omega) (by omega)), cl_n (by omega)]
    have hL : f_L_done g e f = some (upd (upd g 4 0) 5 0, e, upd f (3 * a + 1) 2) := by
      have e5 : 3 * nI (21 + a) - 62 = nI (3 * a + 1) := by rw [show (3 : Int32) = nI 3 from rfl, pk_mul, show (62 : Int32) = nI 62 from rfl, pk_sub (by omega), show 3 * (21 + a) - 62 = 3 * a + 1 by omega]
      unfold f_L_done
      rw [a3, if_neg (h0 _ (by omega) (by omega)), if_pos (show (21 : Int32) ≤ nI (21 + a) from (nI_leI (a := 21) (by omega) (by omega)).mpr (by omega)), if_neg (show ¬ (40 : Int32) ≤ nI (21 + a) from fun z => by have := (nI_leI (a := 40) (by omega) (by omega)).mp z; omega), if_neg (h0 _ (by omega) (by omega)), e5, if_pos (zin_n (by omega) (by omega)), cl_n (by omega)]
    rw [hx] at h
    refine ⟨_, _, hL, key (upd u.1 (70 + 3 * a + 1) 2) _ _ (Option.some.inj h).symm (fun j hj => pk_un (by omega)) (fun b hb => pk_un (by omega)) (EL_cg hE (fun i w hi hw => pk_un (by omega))) (FL_up hF a1 (by omega) pk_us (fun i w hi hw hq => pk_un (by omega))) (NL_cg hN (fun i w hi hw => pk_un (by omega)))⟩
  · have hx : f_X7_endsOnAir u = some (upd (upd (upd u.1 2 0) 3 0) 4 0, u.2) := by
      unfold f_X7_endsOnAir
      rw [if_neg (by rw [q]; decide), if_neg (by rw [q]; decide)]
    have hL : f_L_done g e f = some (upd (upd g 4 0) 5 0, e, f) := by
      unfold f_L_done
      rw [a3, if_neg (h0 _ (by omega) (by omega)), if_pos (show (21 : Int32) ≤ nI 40 from by decide), if_pos (show (40 : Int32) ≤ nI 40 from by decide)]
    rw [hx] at h
    exact ⟨_, _, hL, key u.1 _ _ (Option.some.inj h).symm (fun j hj => rfl) (fun b hb => rfl) hE hF hN⟩
/-- a step of the law's time, something on the air -/
def LStp (g e f l : FF) (T gone : Int32) : Option ((Int32 × FF × FF × FF × FF) ⊕ (Int32 × FF × FF × FF × FF)) :=
  (if (g 5) ≤ 70 then some 1 else if (T - gone) ≤ 70 then some 1 else some 50 : Option Int32).bind (fun u16 =>
  (if (g 4) = 40 then some u16 else some 0 : Option Int32).bind (fun u18 =>
  if ((g 5) - u16) = 0 then
    (f_L_done (upd (upd (upd g 2 ((g 2) + u16)) 5 ((g 5) - u16)) 6 ((g 6) + u18)) e f).bind (fun u21 => some (.inl ((gone + u16), u21.1, u21.2.1, u21.2.2, l)))
  else
    some (.inl ((gone + u16), (upd (upd (upd g 2 ((g 2) + u16)) 5 ((g 5) - u16)) 6 ((g 6) + u18)), e, f, l))))
theorem LSe (G0 G1 G2 G3 : FF) (T : Int32) (x : Int32 × FF × FF × FF × FF) : s_L_goes_3 G0 G1 G2 G3 T x =
    if T ≤ x.1 then some (.inr x) else if (x.2.1 3) = 0 then
      (if (x.2.1 4) = 0 then (f_L_next x.2.1 x.2.2.1 x.2.2.2.1 x.2.2.2.2).bind (fun u14 => if (u14.1 3) = 0 then LStp u14.1 u14.2.1 u14.2.2.1 u14.2.2.2 T x.1 else some (.inl (x.1, u14.1, u14.2.1, u14.2.2.1, u14.2.2.2)))
       else if (x.2.1 3) = 0 then LStp x.2.1 x.2.2.1 x.2.2.2.1 x.2.2.2.2 T x.1 else some (.inl (x.1, x.2.1, x.2.2.1, x.2.2.2.1, x.2.2.2.2)))
    else some (.inr x) := rfl
theorem zl_lead {σ ρ : Type} {f : σ → Option (σ ⊕ ρ)} {x y : σ} (h : f x = some (.inl y)) : ∀ (N : Nat) (r : ρ), zloop f N y = some r → zloop f (N + 1) x = some r := fun N r hr => by
  rw [zl_l h N]
  exact hr
/-- many steps: up to the end of what is on the air, or up to the end of the time -/
theorem Lma {G0 G1 G2 G3 : FF} {T : Nat} (hT : T ≤ 2000000) : ∀ (D d : Nat), d ≤ D → 1 ≤ d → ∀ (g e f l : FF) (q a : Nat), g 3 = 0 → g 4 ≠ 0 → g 5 = nI q → q ≤ 2000000 → d ≤ q → a + d ≤ T → (d = q ∨ a + d = T) →
    ∃ (c : Nat) (gm : FF), c ≤ d ∧ (∀ j : Nat, j ≠ 2 → j ≠ 5 → j ≠ 6 → gm j = g j) ∧ gm 2 = g 2 + nI d ∧ gm 5 = nI (q - d) ∧ gm 6 = g 6 + (if g 4 = 40 then nI d else 0) ∧
      (q - d ≠ 0 → ∀ (N : Nat) (r : Int32 × FF × FF × FF × FF), zloop (s_L_goes_3 G0 G1 G2 G3 (nI T)) N (nI (a + d), gm, e, f, l) = some r → zloop (s_L_goes_3 G0 G1 G2 G3 (nI T)) (N + c) (nI a, g, e, f, l) = some r) ∧
      (q - d = 0 → ∀ g' e' f' : FF, f_L_done gm e f = some (g', e', f') → ∀ (N : Nat) (r : Int32 × FF × FF × FF × FF), zloop (s_L_goes_3 G0 G1 G2 G3 (nI T)) N (nI (a + d), g', e', f', l) = some r → zloop (s_L_goes_3 G0 G1 G2 G3 (nI T)) (N + c) (nI a, g, e, f, l) = some r) := by
  intro D
  induction D with
  | zero => intro d h1 h2; omega
  | succ D ih =>
    intro d hD hd g e f l q a g3 g4 g5 hq hdq haT hend
    obtain ⟨by', hby, hby1, hbyd⟩ : ∃ by' : Nat, (if (g 5) ≤ 70 then some 1 else if (nI T - nI a) ≤ 70 then some 1 else some 50 : Option Int32) = some (nI by') ∧ 1 ≤ by' ∧ by' ≤ d := by
      rw [g5, pk_sub (by omega)]
      by_cases h1 : q ≤ 70
      · exact ⟨1, by rw [if_pos (show nI q ≤ (70 : Int32) from (nI_leI (b := 70) (by omega) (by omega)).mpr h1)]; rfl, by omega, hd⟩
      · rw [if_neg (show ¬ nI q ≤ (70 : Int32) from fun z => h1 ((nI_leI (b := 70) (by omega) (by omega)).mp z))]
        by_cases h2 : T - a ≤ 70
        · exact ⟨1, by rw [if_pos (show nI (T - a) ≤ (70 : Int32) from (nI_leI (b := 70) (by omega) (by omega)).mpr h2)]; rfl, by omega, hd⟩
        · exact ⟨50, by rw [if_neg (show ¬ nI (T - a) ≤ (70 : Int32) from fun z => h2 ((nI_leI (b := 70) (by omega) (by omega)).mp z))]; rfl, by omega, by omega⟩
    obtain ⟨w, hw⟩ : ∃ w : Int32, w = (if g 4 = 40 then nI by' else 0) := ⟨_, rfl⟩
    have hw' : (if (g 4) = 40 then some (nI by') else some 0 : Option Int32) = some w := by
      rw [hw]
      by_cases hc : g 4 = 40
      · rw [if_pos hc, if_pos hc]
      · rw [if_neg hc, if_neg hc]
    obtain ⟨gm, hgm⟩ : ∃ gm : FF, gm = upd (upd (upd g 2 ((g 2) + nI by')) 5 (nI (q - by'))) 6 ((g 6) + w) := ⟨_, rfl⟩
    have hdif : nI q - nI by' = nI (q - by') := pk_sub (by omega)
    have hst : s_L_goes_3 G0 G1 G2 G3 (nI T) (nI a, g, e, f, l) = if nI (q - by') = 0 then (f_L_done gm e f).bind (fun u21 => some (.inl (nI (a + by'), u21.1, u21.2.1, u21.2.2, l))) else some (.inl (nI (a + by'), gm, e, f, l)) := by
      rw [LSe]
      dsimp only
      rw [if_neg (by rw [nI_leI (by omega) (by omega)]; omega), if_pos g3, if_neg g4, if_pos g3]
      unfold LStp
      rw [hby, Option.bind_some, hw', Option.bind_some, g5, hdif, ← hgm, nI_add]
    have hz : (nI (q - by') = 0) = (q - by' = 0) := by
      apply propext
      show nI (q - by') = nI 0 ↔ _
      rw [nI_eq (by omega) (by omega)]
    have m0 : ∀ j : Nat, j ≠ 2 → j ≠ 5 → j ≠ 6 → gm j = g j := fun j j2 j5 j6 => by rw [hgm, pk_un j6, pk_un j5, pk_un j2]
    have m2 : gm 2 = g 2 + nI by' := by rw [hgm, pk_un (by omega), pk_un (by omega), pk_us]
    have m5 : gm 5 = nI (q - by') := by rw [hgm, pk_un (by omega), pk_us]
    have m6 : gm 6 = g 6 + w := by rw [hgm, pk_us]
    by_cases hqb : q - by' = 0
    · obtain rfl : d = by' := by omega
      refine ⟨1, gm, hd, m0, m2, m5, by rw [m6, hw], fun z => absurd hqb z, fun _ g' e' f' hdo N r hr => zl_lead ?_ N r hr⟩
      rw [hst, if_pos (by rw [hz]; exact hqb), hdo, Option.bind_some]
    · have hstep : s_L_goes_3 G0 G1 G2 G3 (nI T) (nI a, g, e, f, l) = some (.inl (nI (a + by'), gm, e, f, l)) := by rw [hst, if_neg (by rw [hz]; exact hqb)]
      by_cases hdb : d = by'
      · subst hdb
        exact ⟨1, gm, hd, m0, m2, m5, by rw [m6, hw], fun _ N r hr => zl_lead hstep N r hr, fun z => absurd z hqb⟩
      · obtain ⟨c, g2', c1, c2, c3, c4, c5, c6, c7⟩ := ih (d - by') (by omega) (by omega) gm e f l (q - by') (a + by') (by rw [m0 3 (by omega) (by omega) (by omega)]; exact g3) (by rw [m0 4 (by omega) (by omega) (by omega)]; exact g4) m5 (by omega) (by omega) (by omega) (by omega)
        have hsum : a + by' + (d - by') = a + d := by omega
        rw [hsum] at c6 c7
        refine ⟨c + 1, g2', by omega, fun j j2 j5 j6 => (c2 j j2 j5 j6).trans (m0 j j2 j5 j6), ?_, ?_, ?_, fun z N r hr => ?_, fun z g' e' f' hdo N r hr => ?_⟩
        · rw [c3, m2, Int32.add_assoc, nI_add, show by' + (d - by') = d by omega]
        · rw [c4, show q - by' - (d - by') = q - d by omega]
        · rw [c5, m6, hw, m0 4 (by omega) (by omega) (by omega)]
          by_cases hc : g 4 = 40
          · rw [if_pos hc, if_pos hc, if_pos hc, Int32.add_assoc, nI_add, show by' + (d - by') = d by omega]
          · rw [if_neg hc, if_neg hc, if_neg hc, Int32.add_zero]
        · exact zl_lead hstep (N + c) r (c6 (by omega) N r hr)
        · exact zl_lead hstep (N + c) r (c7 (by omega) g' e' f' hdo N r hr)
