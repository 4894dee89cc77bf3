/-! Elements and fillers are added, by the class and by the law. -/
theorem adC {v : CV} {p0 p1 p2 : Int32} (h0 : ¬ p0 < 1) (h1 : p0 ≤ 1800) (h2 : p1 = -1 ∨ (¬ p1 = -1 ∧ ¬ p1 < 0 ∧ p1 < 3600)) (h3 : ¬ p2 < 0) (h4 : p2 ≤ 9) (h5 : zb v.1.2.2.2.2.1 = 0) (h6 : v.1.1.1 < 12) : fn_X6_addElement v p0 p1 p2 = (f_X6_save v).bind (fun u8 => (f_X0_add u8.1.1 p0 p1 p2).bind (fun u9 => some ((u9.1 - 1), ((u9, u8.1.2), u8.2)))) := by
  unfold fn_X6_addElement
  rw [if_neg h0, if_pos h1]
  rcases h2 with h2 | ⟨a, b, c⟩
  · rw [if_pos h2, if_neg h3, if_pos h4, if_pos h5, if_pos h6]
  · rw [if_neg a, if_neg b, if_pos c, if_neg h3, if_pos h4, if_pos h5, if_pos h6]
theorem adO {v : CV} {p0 p1 p2 : Int32} (h0 : ¬ p0 < 1) (h1 : p0 ≤ 1800) (h2 : p1 = -1 ∨ (¬ p1 = -1 ∧ ¬ p1 < 0 ∧ p1 < 3600)) (h3 : ¬ p2 < 0) (h4 : p2 ≤ 9) (h5 : ¬ zb v.1.2.2.2.2.1 = 0) : f_X6_addElement v p0 p1 p2 = some (.inl 2) := by
  unfold f_X6_addElement
  rw [if_neg h0, if_pos h1]
  rcases h2 with h2 | ⟨a, b, c⟩
  · rw [if_pos h2, if_neg h3, if_pos h4, if_neg h5]
  · rw [if_neg a, if_neg b, if_pos c, if_neg h3, if_pos h4, if_neg h5]
theorem adR {v : CV} {p0 p1 : Int32} (h0 : ¬ p0 < 1) (h1 : p0 ≤ 1800) (h2 : p1 = -1 ∨ (¬ p1 = -1 ∧ ¬ p1 < 0 ∧ p1 < 3600)) : f_X6_addElement v p0 p1 10 = some (.inl 1) := by
  unfold f_X6_addElement
  rw [if_neg h0, if_pos h1]
  rcases h2 with h2 | ⟨a, b, c⟩
  · rw [if_pos h2, if_neg (by decide), if_neg (by decide)]
  · rw [if_neg a, if_neg b, if_pos c, if_neg (by decide), if_neg (by decide)]
theorem put7 {u r : MV} {n : Nat} {l t k : Int32} (hn : n < 12) (h7 : u.1 7 = nI n) (h : f_X7_putElement u l t k = some r) : r.1 (10 + 5 * n + 0) = l ∧ r.1 (10 + 5 * n + 1) = t ∧ r.1 (10 + 5 * n + 2) = k ∧ r.1 (10 + 5 * n + 3) = 0 ∧ r.1 (10 + 5 * n + 4) = -1 ∧ r.1 7 = nI (n + 1) ∧ ∀ j : Nat, j ≠ 7 → (j < 10 + 5 * n ∨ 10 + 5 * n + 5 ≤ j) → r.1 j = u.1 j := by
  have i0 : (10 + (5 * nI n)) + 0 = nI (10 + 5 * n + 0) := x7i (w := 0)
  have i1 : (10 + (5 * nI n)) + 1 = nI (10 + 5 * n + 1) := x7i (w := 1)
  have i2 : (10 + (5 * nI n)) + 2 = nI (10 + 5 * n + 2) := x7i (w := 2)
  have i3 : (10 + (5 * nI n)) + 3 = nI (10 + 5 * n + 3) := x7i (w := 3)
  have i4 : (10 + (5 * nI n)) + 4 = nI (10 + 5 * n + 4) := x7i (w := 4)
  unfold f_X7_putElement at h
  rw [h7, i0, i1, i2, i3, i4, if_pos (zin_n (by omega) (by omega)), if_pos (zin_n (by omega) (by omega)), if_pos (zin_n (by omega) (by omega)), if_pos (zin_n (by omega) (by omega)), if_pos (zin_n (by omega) (by omega)), cl_n (by omega), cl_n (by omega), cl_n (by omega), cl_n (by omega), cl_n (by omega), pk_un (show 7 ≠ 10 + 5 * n + 4 by omega), pk_un (show 7 ≠ 10 + 5 * n + 3 by omega), pk_un (show 7 ≠ 10 + 5 * n + 2 by omega), pk_un (show 7 ≠ 10 + 5 * n + 1 by omega), pk_un (show 7 ≠ 10 + 5 * n + 0 by omega), h7, nI_1] at h
  have hr := (Option.some.inj h).symm
  subst hr
  refine ⟨?_, ?_, ?_, ?_, ?_, ?_, fun j j7 hj => ?_⟩ <;> dsimp only
  · rw [pk_un (by omega), pk_un (by omega), pk_un (by omega), pk_un (by omega), pk_un (by omega), pk_us]
  · rw [pk_un (by omega), pk_un (by omega), pk_un (by omega), pk_un (by omega), pk_us]
  · rw [pk_un (by omega), pk_un (by omega), pk_un (by omega), pk_us]
  · rw [pk_un (by omega), pk_un (by omega), pk_us]
  · rw [pk_un (by omega), pk_us]
  · rw [pk_us]
  · rw [pk_un j7, pk_un (by omega), pk_un (by omega), pk_un (by omega), pk_un (by omega), pk_un (by omega)]
theorem putF7 {u r : MV} {m : Nat} {l : Int32} (hm : m < 10) (h8 : u.1 8 = nI m) (h : f_X7_putFiller u l = some r) : r.1 (70 + 3 * m + 0) = l ∧ r.1 (70 + 3 * m + 1) = 0 ∧ r.1 (70 + 3 * m + 2) = -1 ∧ r.1 8 = nI (m + 1) ∧ ∀ j : Nat, j ≠ 8 → (j < 70 + 3 * m ∨ 70 + 3 * m + 3 ≤ j) → r.1 j = u.1 j := by
  have i0 : (70 + (3 * nI m)) + 0 = nI (70 + 3 * m + 0) := x7j (w := 0)
  have i1 : (70 + (3 * nI m)) + 1 = nI (70 + 3 * m + 1) := x7j (w := 1)
  have i2 : (70 + (3 * nI m)) + 2 = nI (70 + 3 * m + 2) := x7j (w := 2)
  unfold f_X7_putFiller at h
  rw [h8, i0, i1, i2, if_pos (zin_n (by omega) (by omega)), if_pos (zin_n (by omega) (by omega)), if_pos (zin_n (by omega) (by omega)), cl_n (by omega), cl_n (by omega), cl_n (by omega), pk_un (show 8 ≠ 70 + 3 * m + 2 by omega), pk_un (show 8 ≠ 70 + 3 * m + 1 by omega), pk_un (show 8 ≠ 70 + 3 * m + 0 by omega), h8, nI_1] at h
  have hr := (Option.some.inj h).symm
  subst hr
  refine ⟨?_, ?_, ?_, ?_, fun j j7 hj => ?_⟩ <;> dsimp only
  · rw [pk_un (by omega), pk_un (by omega), pk_un (by omega), pk_us]
  · rw [pk_un (by omega), pk_un (by omega), pk_us]
  · rw [pk_un (by omega), pk_us]
  · rw [pk_us]
  · rw [pk_un j7, pk_un (by omega), pk_un (by omega), pk_un (by omega)]
theorem EN_cg {s s' : FF} {n n' : Nat} (h : EN s n) (hA : s 2 = 1 → ∃ a : Nat, a < n ∧ s 3 = nI a) (hn : n ≤ 12) (hn' : n' ≤ 12) (s2 : s' 2 = s 2) (s3 : s' 3 = s 3) (s4 : s' 4 = s 4) (hs : ∀ a : Nat, a < n → pS s a = 1 → pB s' a = pB s a ∧ pL s' a = pL s a ∧ pS s' a = pS s a) : EN s' n' := fun a ha q2 q3 => by
  rw [s2] at q2
  rw [s3] at q3
  obtain ⟨b, b1, b2⟩ := hA q2
  obtain rfl : a = b := by
    rw [q3, nI_eq (by omega) (by omega)] at b2
    exact b2
  obtain ⟨z1, z2⟩ := h a b1 q2 q3
  obtain ⟨w1, w2, w3⟩ := hs a b1 z1
  rw [s4, w1, w2, w3]
  exact ⟨z1, z2⟩
theorem BG_cg {s s' : FF} {n : Nat} (h : BG s n) (hs : ∀ a : Nat, a < n → pB s' a = pB s a) : BG s' n := fun a ha => by
  rw [hs a ha]
  exact h a ha
theorem AIR_a {g s : FF} {n m : Nat} (h : AIR g s n m) : s 2 = 1 → ∃ a : Nat, a < n ∧ s 3 = nI a := fun q => by
  rcases h with ⟨q', -⟩ | ⟨-, ⟨a, a1, a2, -⟩, -⟩ | ⟨q', -⟩ | ⟨q', -⟩
  · rw [q'] at q; exact absurd q (by decide)
  · exact ⟨a, a1, a2⟩
  · rw [q'] at q; exact absurd q (by decide)
  · rw [q'] at q; exact absurd q (by decide)
theorem AIR_n {g s : FF} {n n' m m' : Nat} (h : AIR g s n m) (hn : n ≤ n') (hm : m ≤ m') : AIR g s n' m' := by
  rcases h with q | ⟨q, ⟨a, a1, a2⟩, q3⟩ | ⟨q, ⟨a, a1, a2⟩, q3⟩ | q
  · exact Or.inl q
  · exact Or.inr (Or.inl ⟨q, ⟨a, by omega, a2⟩, q3⟩)
  · exact Or.inr (Or.inr (Or.inl ⟨q, ⟨a, by omega, a2⟩, q3⟩))
  · exact Or.inr (Or.inr (Or.inr q))
abbrev u20 : U2 := (fun _ => 0, fun _ => 0, fun _ => 0, 0, fun _ => 0, 0, 0, 0, 0, 0)
theorem le_r {a b : Nat} (ha : a < 2 ^ 31) (hb : b < 2 ^ 31) (h : a ≤ b) : nI a ≤ nI b := (nI_leI ha hb).mpr h
theorem nlt_r {a b : Nat} (ha : a < 2 ^ 31) (hb : b < 2 ^ 31) (h : b ≤ a) : ¬ nI a < nI b := fun q => by
  rw [nI_ltI ha hb] at q
  omega
/-- an element is added -/
theorem K92a {v : CV} {g e f l : FF} {L K : Nat} {t : Int32} (hJ : JJ v g e f l) (h3 : ¬ g 3 = 1) (h6 : ¬ g 0 = 6) (hL1 : 1 ≤ L) (hL2 : L ≤ 1800) (hK : K ≤ 9) (ht : t = -1 ∨ ∃ t' : Nat, t' ≤ 3599 ∧ t = nI t') :
    AK (if zin (5 * (g 0)) 30 = true then
      if zin ((5 * (g 0)) + 1) 30 = true then
      if zin ((5 * (g 0)) + 2) 30 = true then
      if zin ((5 * (g 0)) + 3) 30 = true then
      if zin ((5 * (g 0)) + 4) 30 = true then
      (fn_X6_addElement v (nI L) t (nI K)).bind (fun u17 =>
      if u17.1 = (((g 0) + 1) - 1) then
        some (true, (upd g 0 ((g 0) + 1)), (upd (upd (upd (upd (upd e ((5 * (g 0)).toNatClampNeg) (nI L)) (((5 * (g 0)) + 1).toNatClampNeg) t) (((5 * (g 0)) + 2).toNatClampNeg) (nI K)) (((5 * (g 0)) + 3).toNatClampNeg) 0) (((5 * (g 0)) + 4).toNatClampNeg) (-1)), f, l, u17.2)
      else
        none)
      else none
      else none
      else none
      else none
      else none) := by
  obtain ⟨s, n, m, k, h0, hl, hin, hS, hR, hEN, hOV, hBG⟩ := hJ
  have hA := hR.2
  obtain ⟨⟨r1, r2, r3, g0, g1, g2, g3, g6, g7, g8, s7, s8, s9, hE, hF, hN⟩, -⟩ := hR
  have hn6 : n < 6 := by
    have : n ≠ 6 := fun q => h6 (by rw [g0, q]; rfl)
    omega
  have ho : zb v.1.2.2.2.2.1 = 0 := by
    rcases ov2 h0 hin with ⟨q, -⟩ | ⟨-, -, q⟩
    · exact q
    · exact absurd (g3.trans q) h3
  obtain ⟨q', c', w1, w2⟩ := sv8 hS
  obtain ⟨e', s', k1, k2, k3, k4, k5, k6, k7, k8⟩ := ade2 (u := (s, u20)) (l := nI L) (t := t) (r := nI K) h0 (LB_t hl) hin (by omega) ⟨L, hL1, by omega, rfl⟩ ht
  obtain ⟨p0, p1, p2, p3, p4, p5, p6⟩ := put7 (u := (s, u20)) (by omega) s7 k2
  have hcls : fn_X6_addElement v (nI L) t (nI K) = some (nI (n + 1) - 1, ((e', v.1.2), v.2.1, q', c', v.2.2.2.2)) := by
    have hcn : v.1.1.1 = nI n := h0.1.2.1
    rw [adC (nlt_r (b := 1) (by omega) (by omega) hL1) (le_r (b := 1800) (by omega) (by omega) hL2) (by
      rcases ht with q | ⟨t', t1, rfl⟩
      · exact Or.inl q
      · exact Or.inr ⟨of_eq_false (ne1_n (by omega)), of_eq_false (neg_n (by omega)), (show nI t' < nI 3600 from by rw [nI_ltI (by omega) (by omega)]; omega)⟩) (of_eq_false (neg_n (by omega))) (le_r (b := 9) (by omega) (by omega) hK) ho (by rw [hcn]; show nI n < nI 12; rw [nI_ltI (by omega) (by omega)]; omega), w1, Option.bind_some]
    dsimp only
    rw [k1, Option.bind_some, k3]
  rw [g0, l54, l53, l52, l51, l50, if_pos (zin_n (by omega) (by omega)), if_pos (zin_n (by omega) (by omega)), if_pos (zin_n (by omega) (by omega)), if_pos (zin_n (by omega) (by omega)), if_pos (zin_n (by omega) (by omega)), cl_n (by omega), cl_n (by omega), cl_n (by omega), cl_n (by omega), cl_n (by omega), hcls, Option.bind_some, nI_1, if_pos rfl]
  have p6' : ∀ j : Nat, j ≠ 7 → (j < 10 + 5 * n ∨ 10 + 5 * n + 5 ≤ j) → s' j = s j := p6
  have gg : ∀ j : Nat, j ≠ 0 → upd g 0 (nI (n + 1)) j = g j := fun j hj => pk_un hj
  have hA' : AIR (upd g 0 (nI (n + 1))) s' (n + 1) m := AIR_n (AIR_cg hA (gg 4 (by omega)) (gg 5 (by omega)) (p6' 0 (by omega) (by omega)) (p6' 2 (by omega) (by omega)) (p6' 3 (by omega) (by omega)) (p6' 4 (by omega) (by omega))) (by omega) (Nat.le_refl _)
  refine ⟨_, _, _, _, _, rfl, s', n + 1, m, k, k5, k6.2.2.2 trivial, k7, w2, ⟨⟨by omega, r2, r3, pk_us, (gg 1 (by omega)).trans g1, ((gg 2 (by omega)).trans g2).trans (p6' 0 (by omega) (by omega)).symm, ((gg 3 (by omega)).trans g3).trans (p6' 1 (by omega) (by omega)).symm, ((gg 6 (by omega)).trans g6).trans (p6' 5 (by omega) (by omega)).symm, ((gg 7 (by omega)).trans g7).trans (p6' 6 (by omega) (by omega)).symm, (gg 8 (by omega)).trans g8, p5, (p6' 8 (by omega) (by omega)).trans s8, (p6' 9 (by omega) (by omega)).trans s9, ?_, FL_cg hF (fun i w hi hw => p6' _ (by omega) (by omega)), NL_cg hN (fun i w hi hw => p6' _ (by omega) (by omega))⟩, hA'⟩, EN_cg hEN (AIR_a hA) (by omega) (by omega) (p6' 2 (by omega) (by omega)) (p6' 3 (by omega) (by omega)) (p6' 4 (by omega) (by omega)) (fun a ha _ => ⟨p6' _ (by omega) (by omega), p6' _ (by omega) (by omega), p6' _ (by omega) (by omega)⟩), fun q => ?_, fun a ha => ?_⟩
  · intro i w hi hw
    by_cases hin' : i = n
    · subst hin'
      rcases (by omega : w = 0 ∨ w = 1 ∨ w = 2 ∨ w = 3 ∨ w = 4) with rfl | rfl | rfl | rfl | rfl
      · rw [pk_un (by omega), pk_un (by omega), pk_un (by omega), pk_un (by omega), Nat.add_zero, pk_us]
        exact p0.symm
      · rw [pk_un (by omega), pk_un (by omega), pk_un (by omega), pk_us]
        exact p1.symm
      · rw [pk_un (by omega), pk_un (by omega), pk_us]
        exact p2.symm
      · rw [pk_un (by omega), pk_us]
        exact p3.symm
      · rw [pk_us]
        exact p4.symm
    · rw [pk_un (by omega), pk_un (by omega), pk_un (by omega), pk_un (by omega), pk_un (by omega), p6' _ (by omega) (by omega)]
      exact hE i w (by omega) hw
  · rw [p6' 1 (by omega) (by omega)] at q
    exact (p6' 2 (by omega) (by omega)).trans (hOV q)
  · by_cases han : a = n
    · subst han
      exact Or.inl p4
    · rw [show pB s' a = pB s a from p6' _ (by omega) (by omega)]
      exact hBG a (by omega)
theorem K92 {v : CV} {g e f l : FF} {V : Nat} (hJ : JJ v g e f l) (hV : V < 10000000) (u2 p0 : Int32) : AK (k_L_acts_92 g e f l v u2 (nI V) p0) := by
  have hJ' := hJ
  obtain ⟨s, n, m, k, h0, hl, hin, hS, hR, hEN, hOV, hBG⟩ := hJ
  have g3 : g 3 = s 1 := hR.1.2.2.2.2.2.2.1
  obtain ⟨M, hM, hM1, hM2⟩ : ∃ M : Nat, (if (nI V - nI V / 5 * 5) = 0 then some 1800 else some 700 : Option Int32) = some (nI M) ∧ 1 ≤ M ∧ M ≤ 1800 := by
    by_cases hc : (nI V - nI V / 5 * 5) = 0
    · exact ⟨1800, by rw [if_pos hc]; rfl, by omega, by omega⟩
    · exact ⟨700, by rw [if_neg hc]; rfl, by omega, by omega⟩
  obtain ⟨t, ht, ht2⟩ : ∃ t : Int32, (if ((nI V / 7) - (nI V / 7) / 3 * 3) ≤ 0 then some ((nI V / 21) - (nI V / 21) / 3600 * 3600) else some (-1) : Option Int32) = some t ∧ (t = -1 ∨ ∃ t' : Nat, t' ≤ 3599 ∧ t = nI t') := by
    by_cases hc : ((nI V / 7) - (nI V / 7) / 3 * 3) ≤ 0
    · refine ⟨_, by rw [if_pos hc], Or.inr ⟨V / 21 % 3600, by omega, ?_⟩⟩
      have e1 : nI V / 21 = nI (V / 21) := pk_div (d := 21) (by omega) (by omega) (by omega)
      rw [e1]
      exact rmd (by omega) 3600 (by omega) (by omega)
    · exact ⟨-1, by rw [if_neg hc], Or.inl rfl⟩
  have hMn : ¬ nI M = 0 := (show ¬ nI M = nI 0 from by rw [nI_eq (by omega) (by omega)]; omega)
  have hlen : 1 + (nI V - nI V / nI M * nI M) = nI (1 + V % M) := by
    rw [rmd (by omega) M (by omega) (by omega), show (1 : Int32) = nI 1 from rfl, nI_add]
  have hmod : V % M < M := Nat.mod_lt _ (by omega)
  have hrank : (nI V / 3) - (nI V / 3) / 10 * 10 = nI (V / 3 % 10) := by
    have e1 : nI V / 3 = nI (V / 3) := pk_div (d := 3) (by omega) (by omega) (by omega)
    rw [e1]
    exact rmd (by omega) 10 (by omega) (by omega)
  have hr10 : V / 3 % 10 ≤ 9 := by omega
  have hp : t = -1 ∨ (¬ t = -1 ∧ ¬ t < 0 ∧ t < 3600) := by
    rcases ht2 with q | ⟨t', t1, rfl⟩
    · exact Or.inl q
    · exact Or.inr ⟨of_eq_false (ne1_n (by omega)), of_eq_false (neg_n (by omega)), (show nI t' < nI 3600 from by rw [nI_ltI (by omega) (by omega)]; omega)⟩
  unfold k_L_acts_92
  rw [hM, Option.bind_some, if_neg hMn, ht, Option.bind_some, hlen, hrank]
  generalize V / 3 % 10 = K at *
  have hL1 : 1 ≤ 1 + V % M := by omega
  have hL2 : 1 + V % M ≤ 1800 := by omega
  generalize 1 + V % M = L at *
  by_cases h3 : g 3 = 1
  · rw [if_pos h3]
    have ho : ¬ zb v.1.2.2.2.2.1 = 0 := by
      rcases ov2 h0 hin with ⟨-, -, q⟩ | ⟨q, -⟩
      · exact absurd (g3.symm.trans h3) q
      · exact q
    have hf : fa_L_adds v (nI L) t (nI K) = some (-2000003, v) := by
      unfold fa_L_adds
      rw [adO (nlt_r (b := 1) (by omega) (by omega) hL1) (le_r (b := 1800) (by omega) (by omega) hL2) hp (of_eq_false (neg_n (by omega))) (le_r (b := 9) (by omega) (by omega) hr10) ho]
      rfl
    rw [hf, Option.bind_some, if_pos rfl]
    exact ⟨v, g, e, f, l, rfl, hJ'⟩
  · rw [if_neg h3]
    by_cases h6 : g 0 = 6
    · rw [if_pos h6]
      have hf : fa_L_adds v (nI L) t 10 = some (-2000002, v) := by
        unfold fa_L_adds
        rw [adR (nlt_r (b := 1) (by omega) (by omega) hL1) (le_r (b := 1800) (by omega) (by omega) hL2) hp]
        rfl
      rw [hf, Option.bind_some, if_pos rfl]
      exact ⟨v, g, e, f, l, rfl, hJ'⟩
    · rw [if_neg h6]
      exact K92a hJ' h3 h6 hL1 hL2 hr10 ht2
/-- a filler is added -/
theorem K288 {v : CV} {g e f l : FF} {V : Nat} (hJ : JJ v g e f l) (hV : V < 10000000) (u2 p0 : Int32) : AK (k_L_acts_288 g e f l v u2 (nI V) p0) := by
  have hJ' := hJ
  obtain ⟨s, n, m, k, h0, hl, hin, hS, hR, hEN, hOV, hBG⟩ := hJ
  have hA := hR.2
  obtain ⟨⟨r1, r2, r3, g0, g1, g2, g3, g6, g7, g8, s7, s8, s9, hE, hF, hN⟩, -⟩ := hR
  have hlen : 1 + (nI V - nI V / 900 * 900) = nI (1 + V % 900) := by
    have e1 : nI V - nI V / 900 * 900 = nI (V % 900) := rmd (by omega) 900 (by omega) (by omega)
    rw [e1, show (1 : Int32) = nI 1 from rfl, nI_add]
  have hL1 : 1 ≤ 1 + V % 900 := by omega
  have hL2 : 1 + V % 900 ≤ 900 := by omega
  unfold k_L_acts_288
  rw [hlen]
  generalize 1 + V % 900 = L at *
  by_cases h3 : g 3 = 1
  · rw [if_pos h3]
    have ho : ¬ zb v.1.2.2.2.2.1 = 0 := by
      rcases ov2 h0 hin with ⟨-, -, q⟩ | ⟨q, -⟩
      · exact absurd (g3.symm.trans h3) q
      · exact q
    have hf : fa_L_fills v (nI L) = some (-2000003, v) := by
      unfold fa_L_fills f_X6_addFiller
      rw [if_neg (show ¬ nI L < 1 from nlt_r (b := 1) (by omega) (by omega) hL1), if_pos (show nI L ≤ 900 from le_r (b := 900) (by omega) (by omega) hL2), if_neg ho]
      rfl
    rw [hf, Option.bind_some, if_pos rfl]
    exact ⟨v, g, e, f, l, rfl, hJ'⟩
  · rw [if_neg h3]
    by_cases h5 : g 1 = 5
    · rw [if_pos h5]
      have hf : fa_L_fills v 901 = some (-2000002, v) := by
        unfold fa_L_fills f_X6_addFiller
        rw [if_neg (by decide), if_neg (by decide)]
        rfl
      rw [hf, Option.bind_some, if_pos rfl]
      exact ⟨v, g, e, f, l, rfl, hJ'⟩
    · rw [if_neg h5]
      have hm5 : m < 5 := by
        have : m ≠ 5 := fun q => h5 (by rw [g1, q]; rfl)
        omega
      have ho : zb v.1.2.2.2.2.1 = 0 := by
        rcases ov2 h0 hin with ⟨q, -⟩ | ⟨-, -, q⟩
        · exact q
        · exact absurd (g3.trans q) h3
      obtain ⟨q', c', w1, w2⟩ := sv8 hS
      obtain ⟨f', s', k1, k2, k3, k4, k5, k6, k7, k8⟩ := adf2 (u := (s, u20)) (l := nI L) h0 (LB_t hl) hin (by omega) ⟨L, hL1, hL2, rfl⟩
      obtain ⟨p0', p1, p2, p3, p4⟩ := putF7 (u := (s, u20)) (by omega) s8 k2
      have hcls : fn_X6_addFiller v (nI L) = some (nI (m + 1) - 1, ((v.1.1, f', v.1.2.2), v.2.1, q', c', v.2.2.2.2)) := by
        have hcn : v.1.2.1.1 = nI m := h0.2.1.2.1
        unfold fn_X6_addFiller
        rw [if_neg (show ¬ nI L < 1 from nlt_r (b := 1) (by omega) (by omega) hL1), if_pos (show nI L ≤ 900 from le_r (b := 900) (by omega) (by omega) hL2), if_pos ho, if_pos (by rw [hcn]; show nI m < nI 10; rw [nI_ltI (by omega) (by omega)]; omega), w1, Option.bind_some]
        dsimp only
        rw [k1, Option.bind_some, k3]
      rw [g1, l32, l31, l30, if_pos (zin_n (by omega) (by omega)), if_pos (zin_n (by omega) (by omega)), if_pos (zin_n (by omega) (by omega)), cl_n (by omega), cl_n (by omega), cl_n (by omega), hcls, Option.bind_some, nI_1, if_pos rfl]
      have p4' : ∀ j : Nat, j ≠ 8 → (j < 70 + 3 * m ∨ 70 + 3 * m + 3 ≤ j) → s' j = s j := p4
      have gg : ∀ j : Nat, j ≠ 1 → upd g 1 (nI (m + 1)) j = g j := fun j hj => pk_un hj
      have hA' : AIR (upd g 1 (nI (m + 1))) s' n (m + 1) := AIR_n (AIR_cg hA (gg 4 (by omega)) (gg 5 (by omega)) (p4' 0 (by omega) (by omega)) (p4' 2 (by omega) (by omega)) (p4' 3 (by omega) (by omega)) (p4' 4 (by omega) (by omega))) (Nat.le_refl _) (by omega)
      refine ⟨_, _, _, _, _, rfl, s', n, m + 1, k, k5, k6.2.2.2 trivial, k7, w2, ⟨⟨r1, by omega, r3, (gg 0 (by omega)).trans g0, pk_us, ((gg 2 (by omega)).trans g2).trans (p4' 0 (by omega) (by omega)).symm, ((gg 3 (by omega)).trans g3).trans (p4' 1 (by omega) (by omega)).symm, ((gg 6 (by omega)).trans g6).trans (p4' 5 (by omega) (by omega)).symm, ((gg 7 (by omega)).trans g7).trans (p4' 6 (by omega) (by omega)).symm, (gg 8 (by omega)).trans g8, (p4' 7 (by omega) (by omega)).trans s7, p3, (p4' 9 (by omega) (by omega)).trans s9, EL_cg hE (fun i w hi hw => p4' _ (by omega) (by omega)), ?_, NL_cg hN (fun i w hi hw => p4' _ (by omega) (by omega))⟩, hA'⟩, EN_cg hEN (AIR_a hA) (by omega) (by omega) (p4' 2 (by omega) (by omega)) (p4' 3 (by omega) (by omega)) (p4' 4 (by omega) (by omega)) (fun a ha _ => ⟨p4' _ (by omega) (by omega), p4' _ (by omega) (by omega), p4' _ (by omega) (by omega)⟩), fun q => ?_, BG_cg hBG (fun a ha => p4' _ (by omega) (by omega))⟩
      · intro i w hi hw
        by_cases hin' : i = m
        · subst hin'
          rcases (by omega : w = 0 ∨ w = 1 ∨ w = 2) with rfl | rfl | rfl
          · rw [pk_un (by omega), pk_un (by omega), Nat.add_zero, pk_us]
            exact p0'.symm
          · rw [pk_un (by omega), pk_us]
            exact p1.symm
          · rw [pk_us]
            exact p2.symm
        · rw [pk_un (by omega), pk_un (by omega), pk_un (by omega), p4' _ (by omega) (by omega)]
          exact hF i w (by omega) hw
      · rw [p4' 1 (by omega) (by omega)] at q
        exact (p4' 2 (by omega) (by omega)).trans (hOV q)
